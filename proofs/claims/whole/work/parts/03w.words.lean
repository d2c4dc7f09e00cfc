set_option maxRecDepth 100000 in
theorem clX0 : ClOK 0 RX0 TX0 6 tyX0 := ⟨rfl, by decide, by decide +kernel, tyX0_ok, nmX0, rfl, by decide +kernel⟩
set_option maxRecDepth 100000 in
theorem clX1 : ClOK 1 RX1 TX1 3 tyX1 := ⟨rfl, by decide, by decide +kernel, tyX1_ok, nmX1, rfl, by decide +kernel⟩
set_option maxRecDepth 100000 in
theorem clX2 : ClOK 2 RX2 TX2 4 tyX2 := ⟨rfl, by decide, by decide +kernel, tyX2_ok, nmX2, rfl, by decide +kernel⟩
set_option maxRecDepth 100000 in
theorem clX3 : ClOK 3 RX3 TX3 6 tyX3 := ⟨rfl, by decide, by decide +kernel, tyX3_ok, nmX3, rfl, by decide +kernel⟩
set_option maxRecDepth 100000 in
theorem clX4 : ClOK 4 RX4 TX4 2 tyX4 := ⟨rfl, by decide, by decide +kernel, tyX4_ok, nmX4, rfl, by decide +kernel⟩
set_option maxRecDepth 100000 in
theorem clX5 : ClOK 5 RX5 TX5 6 tyX5 := ⟨rfl, by decide, by decide +kernel, tyX5_ok, nmX5, rfl, by decide +kernel⟩
set_option maxRecDepth 100000 in
theorem clX6 : ClOK 6 RX6 TX6 4 tyX6 := ⟨rfl, by decide, by decide +kernel, tyX6_ok, nmX6, rfl, by decide +kernel⟩
set_option maxRecDepth 100000 in
theorem clX7 : ClOK 7 RX7 TX7 3 tyX7 := ⟨rfl, by decide, by decide +kernel, tyX7_ok, nmX7, rfl, by decide +kernel⟩
set_option maxRecDepth 100000 in
theorem clX8 : ClOK 8 RX8 TX8 2 tyX8 := ⟨rfl, by decide, by decide +kernel, tyX8_ok, nmX8, rfl, by decide +kernel⟩
set_option maxRecDepth 100000 in
theorem clX9 : ClOK 9 RX9 TX9 9 tyX9 := ⟨rfl, by decide, by decide +kernel, tyX9_ok, nmX9, rfl, by decide +kernel⟩
set_option maxRecDepth 100000 in
theorem clX10 : ClOK 10 RX10 TX10 39 tyX10 := ⟨rfl, by decide, by decide +kernel, tyX10_ok, nmX10, rfl, by decide +kernel⟩
set_option maxRecDepth 100000 in
theorem fl_X9_12 : FL RX9 12 9 0 2 := ⟨RX9, TX9, 9, tyX9, clX9, by decide, rfl, wa 228 rfl rfl⟩
set_option maxRecDepth 100000 in
theorem ff_X9_12 : FF RX9 12 9 0 2 (.object "TwoLetterForms$State") := ⟨RX9, TX9, 9, tyX9, clX9, by decide, rfl, wa 228 rfl rfl, rfl, rfl, rfl⟩
set_option maxRecDepth 100000 in
theorem fl_X9_18 : FL RX9 18 9 1 2 := ⟨RX9, TX9, 9, tyX9, clX9, by decide, rfl, wa 229 rfl rfl⟩
set_option maxRecDepth 100000 in
theorem ff_X9_18 : FF RX9 18 9 1 2 (.object "TwoLetterForms$State") := ⟨RX9, TX9, 9, tyX9, clX9, by decide, rfl, wa 229 rfl rfl, rfl, rfl, rfl⟩
set_option maxRecDepth 100000 in
theorem fl_X9_21 : FL RX9 21 9 2 0 := ⟨RX9, TX9, 9, tyX9, clX9, by decide, rfl, wa 230 rfl rfl⟩
set_option maxRecDepth 100000 in
theorem fw_X9_21 : FW RX9 21 9 2 0 (.boolean) := ⟨RX9, TX9, 9, tyX9, clX9, by decide, rfl, wa 230 rfl rfl, rfl, rfl⟩
set_option maxRecDepth 100000 in
theorem fl_X9_28 : FL RX9 28 9 3 2 := ⟨RX9, TX9, 9, tyX9, clX9, by decide, rfl, wa 231 rfl rfl⟩
set_option maxRecDepth 100000 in
theorem ff_X9_28 : FF RX9 28 9 3 2 (.object "TwoLetterForms$Equation") := ⟨RX9, TX9, 9, tyX9, clX9, by decide, rfl, wa 231 rfl rfl, rfl, rfl, rfl⟩
set_option maxRecDepth 100000 in
theorem fl_X9_35 : FL RX9 35 9 4 2 := ⟨RX9, TX9, 9, tyX9, clX9, by decide, rfl, wa 232 rfl rfl⟩
set_option maxRecDepth 100000 in
theorem ff_X9_35 : FF RX9 35 9 4 2 (.object "TwoLetterForms$Answers") := ⟨RX9, TX9, 9, tyX9, clX9, by decide, rfl, wa 232 rfl rfl, rfl, rfl, rfl⟩
set_option maxRecDepth 100000 in
theorem fl_X9_42 : FL RX9 42 9 5 2 := ⟨RX9, TX9, 9, tyX9, clX9, by decide, rfl, wa 233 rfl rfl⟩
set_option maxRecDepth 100000 in
theorem ff_X9_42 : FF RX9 42 9 5 2 (.object "TwoLetterForms$Units") := ⟨RX9, TX9, 9, tyX9, clX9, by decide, rfl, wa 233 rfl rfl, rfl, rfl, rfl⟩
set_option maxRecDepth 100000 in
theorem fl_X9_49 : FL RX9 49 9 6 2 := ⟨RX9, TX9, 9, tyX9, clX9, by decide, rfl, wa 234 rfl rfl⟩
set_option maxRecDepth 100000 in
theorem ff_X9_49 : FF RX9 49 9 6 2 (.object "TwoLetterForms$Parts") := ⟨RX9, TX9, 9, tyX9, clX9, by decide, rfl, wa 234 rfl rfl, rfl, rfl, rfl⟩
set_option maxRecDepth 100000 in
theorem fl_X9_56 : FL RX9 56 9 7 2 := ⟨RX9, TX9, 9, tyX9, clX9, by decide, rfl, wa 235 rfl rfl⟩
set_option maxRecDepth 100000 in
theorem ff_X9_56 : FF RX9 56 9 7 2 (.object "TwoLetterForms$SetUp") := ⟨RX9, TX9, 9, tyX9, clX9, by decide, rfl, wa 235 rfl rfl, rfl, rfl, rfl⟩
set_option maxRecDepth 100000 in
theorem fl_X9_62 : FL RX9 62 9 8 2 := ⟨RX9, TX9, 9, tyX9, clX9, by decide, rfl, wa 236 rfl rfl⟩
set_option maxRecDepth 100000 in
theorem ff_X9_62 : FF RX9 62 9 8 2 (.array (.object "TwoLetterForms$Tape")) := ⟨RX9, TX9, 9, tyX9, clX9, by decide, rfl, wa 236 rfl rfl, rfl, rfl, rfl⟩
set_option maxRecDepth 100000 in
theorem fl_X9_71 : FL RX9 71 6 0 2 := ⟨RX6, TX6, 4, tyX6, clX6, by decide, rfl, wa 92 rfl rfl⟩
set_option maxRecDepth 100000 in
theorem fl_X9_74 : FL RX9 74 1 0 2 := ⟨RX1, TX1, 3, tyX1, clX1, by decide, rfl, wa 60 rfl rfl⟩
set_option maxRecDepth 100000 in
theorem fl_X9_78 : FL RX9 78 2 0 0 := ⟨RX2, TX2, 4, tyX2, clX2, by decide, rfl, wa 44 rfl rfl⟩
set_option maxRecDepth 100000 in
theorem fl_X9_100 : FL RX9 100 1 1 0 := ⟨RX1, TX1, 3, tyX1, clX1, by decide, rfl, wa 63 rfl rfl⟩
set_option maxRecDepth 100000 in
theorem fw_X9_100 : FW RX9 100 1 1 0 (.int) := ⟨RX1, TX1, 3, tyX1, clX1, by decide, rfl, wa 63 rfl rfl, rfl, rfl⟩
set_option maxRecDepth 100000 in
theorem fl_X9_103 : FL RX9 103 1 2 0 := ⟨RX1, TX1, 3, tyX1, clX1, by decide, rfl, wa 66 rfl rfl⟩
set_option maxRecDepth 100000 in
theorem fw_X9_103 : FW RX9 103 1 2 0 (.int) := ⟨RX1, TX1, 3, tyX1, clX1, by decide, rfl, wa 66 rfl rfl, rfl, rfl⟩
set_option maxRecDepth 100000 in
theorem fl_X9_122 : FL RX9 122 5 0 0 := ⟨RX5, TX5, 6, tyX5, clX5, by decide, rfl, wa 189 rfl rfl⟩
set_option maxRecDepth 100000 in
theorem fw_X9_122 : FW RX9 122 5 0 0 (.int) := ⟨RX5, TX5, 6, tyX5, clX5, by decide, rfl, wa 189 rfl rfl, rfl, rfl⟩
set_option maxRecDepth 100000 in
theorem fl_X9_129 : FL RX9 129 5 1 2 := ⟨RX5, TX5, 6, tyX5, clX5, by decide, rfl, wa 191 rfl rfl⟩
set_option maxRecDepth 100000 in
theorem fl_X9_133 : FL RX9 133 4 0 0 := ⟨RX4, TX4, 2, tyX4, clX4, by decide, rfl, wa 84 rfl rfl⟩
set_option maxRecDepth 100000 in
theorem fl_X9_143 : FL RX9 143 0 0 0 := ⟨RX0, TX0, 6, tyX0, clX0, by decide, rfl, wa 119 rfl rfl⟩
set_option maxRecDepth 100000 in
theorem fl_X9_148 : FL RX9 148 8 0 0 := ⟨RX8, TX8, 2, tyX8, clX8, by decide, rfl, wa 147 rfl rfl⟩
set_option maxRecDepth 100000 in
theorem fl_X9_152 : FL RX9 152 0 1 0 := ⟨RX0, TX0, 6, tyX0, clX0, by decide, rfl, wa 121 rfl rfl⟩
set_option maxRecDepth 100000 in
theorem fl_X9_159 : FL RX9 159 3 0 0 := ⟨RX3, TX3, 6, tyX3, clX3, by decide, rfl, wa 161 rfl rfl⟩
set_option maxRecDepth 100000 in
theorem fl_X9_213 : FL RX9 213 6 1 2 := ⟨RX6, TX6, 4, tyX6, clX6, by decide, rfl, wa 94 rfl rfl⟩
set_option maxRecDepth 100000 in
theorem fl_X9_244 : FL RX9 244 6 2 2 := ⟨RX6, TX6, 4, tyX6, clX6, by decide, rfl, wa 96 rfl rfl⟩
set_option maxRecDepth 100000 in
theorem fl_X9_256 : FL RX9 256 6 3 2 := ⟨RX6, TX6, 4, tyX6, clX6, by decide, rfl, wa 98 rfl rfl⟩
set_option maxRecDepth 100000 in
theorem fl_X9_273 : FL RX9 273 7 0 0 := ⟨RX7, TX7, 3, tyX7, clX7, by decide, rfl, wa 217 rfl rfl⟩
set_option maxRecDepth 100000 in
theorem fl_X9_292 : FL RX9 292 7 1 2 := ⟨RX7, TX7, 3, tyX7, clX7, by decide, rfl, wa 219 rfl rfl⟩
set_option maxRecDepth 100000 in
theorem fl_X0_9 : FL RX0 9 0 0 0 := ⟨RX0, TX0, 6, tyX0, clX0, by decide, rfl, wa 118 rfl rfl⟩
set_option maxRecDepth 100000 in
theorem fw_X0_9 : FW RX0 9 0 0 0 (.int) := ⟨RX0, TX0, 6, tyX0, clX0, by decide, rfl, wa 118 rfl rfl, rfl, rfl⟩
set_option maxRecDepth 100000 in
theorem fl_X0_15 : FL RX0 15 0 1 0 := ⟨RX0, TX0, 6, tyX0, clX0, by decide, rfl, wa 120 rfl rfl⟩
set_option maxRecDepth 100000 in
theorem fw_X0_15 : FW RX0 15 0 1 0 (.int) := ⟨RX0, TX0, 6, tyX0, clX0, by decide, rfl, wa 120 rfl rfl, rfl, rfl⟩
set_option maxRecDepth 100000 in
theorem fl_X0_18 : FL RX0 18 0 2 0 := ⟨RX0, TX0, 6, tyX0, clX0, by decide, rfl, wa 122 rfl rfl⟩
set_option maxRecDepth 100000 in
theorem fw_X0_18 : FW RX0 18 0 2 0 (.boolean) := ⟨RX0, TX0, 6, tyX0, clX0, by decide, rfl, wa 122 rfl rfl, rfl, rfl⟩
set_option maxRecDepth 100000 in
theorem fl_X0_22 : FL RX0 22 0 3 0 := ⟨RX0, TX0, 6, tyX0, clX0, by decide, rfl, wa 123 rfl rfl⟩
set_option maxRecDepth 100000 in
theorem fw_X0_22 : FW RX0 22 0 3 0 (.boolean) := ⟨RX0, TX0, 6, tyX0, clX0, by decide, rfl, wa 123 rfl rfl, rfl, rfl⟩
set_option maxRecDepth 100000 in
theorem fl_X0_28 : FL RX0 28 0 4 2 := ⟨RX0, TX0, 6, tyX0, clX0, by decide, rfl, wa 124 rfl rfl⟩
set_option maxRecDepth 100000 in
theorem ff_X0_28 : FF RX0 28 0 4 2 (.object "TwoLetterForms$Equation") := ⟨RX0, TX0, 6, tyX0, clX0, by decide, rfl, wa 124 rfl rfl, rfl, rfl, rfl⟩
set_option maxRecDepth 100000 in
theorem fl_X0_32 : FL RX0 32 0 5 2 := ⟨RX0, TX0, 6, tyX0, clX0, by decide, rfl, wa 125 rfl rfl⟩
set_option maxRecDepth 100000 in
theorem ff_X0_32 : FF RX0 32 0 5 2 (.array .int) := ⟨RX0, TX0, 6, tyX0, clX0, by decide, rfl, wa 125 rfl rfl, rfl, rfl, rfl⟩
set_option maxRecDepth 100000 in
theorem fl_X0_50 : FL RX0 50 1 2 0 := ⟨RX1, TX1, 3, tyX1, clX1, by decide, rfl, wa 65 rfl rfl⟩
set_option maxRecDepth 100000 in
theorem fl_X0_65 : FL RX0 65 1 0 2 := ⟨RX1, TX1, 3, tyX1, clX1, by decide, rfl, wa 61 rfl rfl⟩
set_option maxRecDepth 100000 in
theorem fl_X0_89 : FL RX0 89 8 0 0 := ⟨RX8, TX8, 2, tyX8, clX8, by decide, rfl, wa 146 rfl rfl⟩
set_option maxRecDepth 100000 in
theorem fl_X1_12 : FL RX1 12 1 0 2 := ⟨RX1, TX1, 3, tyX1, clX1, by decide, rfl, wa 59 rfl rfl⟩
set_option maxRecDepth 100000 in
theorem ff_X1_12 : FF RX1 12 1 0 2 (.object "TwoLetterForms$Form") := ⟨RX1, TX1, 3, tyX1, clX1, by decide, rfl, wa 59 rfl rfl, rfl, rfl, rfl⟩
set_option maxRecDepth 100000 in
theorem fl_X1_18 : FL RX1 18 1 1 0 := ⟨RX1, TX1, 3, tyX1, clX1, by decide, rfl, wa 62 rfl rfl⟩
set_option maxRecDepth 100000 in
theorem fw_X1_18 : FW RX1 18 1 1 0 (.int) := ⟨RX1, TX1, 3, tyX1, clX1, by decide, rfl, wa 62 rfl rfl, rfl, rfl⟩
set_option maxRecDepth 100000 in
theorem fl_X1_22 : FL RX1 22 1 2 0 := ⟨RX1, TX1, 3, tyX1, clX1, by decide, rfl, wa 64 rfl rfl⟩
set_option maxRecDepth 100000 in
theorem fw_X1_22 : FW RX1 22 1 2 0 (.int) := ⟨RX1, TX1, 3, tyX1, clX1, by decide, rfl, wa 64 rfl rfl, rfl, rfl⟩
set_option maxRecDepth 100000 in
theorem fl_X2_9 : FL RX2 9 2 0 0 := ⟨RX2, TX2, 4, tyX2, clX2, by decide, rfl, wa 42 rfl rfl⟩
set_option maxRecDepth 100000 in
theorem fw_X2_9 : FW RX2 9 2 0 0 (.int) := ⟨RX2, TX2, 4, tyX2, clX2, by decide, rfl, wa 42 rfl rfl, rfl, rfl⟩
set_option maxRecDepth 100000 in
theorem fl_X2_15 : FL RX2 15 2 1 2 := ⟨RX2, TX2, 4, tyX2, clX2, by decide, rfl, wa 45 rfl rfl⟩
set_option maxRecDepth 100000 in
theorem ff_X2_15 : FF RX2 15 2 1 2 (.array .int) := ⟨RX2, TX2, 4, tyX2, clX2, by decide, rfl, wa 45 rfl rfl, rfl, rfl, rfl⟩
set_option maxRecDepth 100000 in
theorem fl_X2_19 : FL RX2 19 2 2 2 := ⟨RX2, TX2, 4, tyX2, clX2, by decide, rfl, wa 46 rfl rfl⟩
set_option maxRecDepth 100000 in
theorem ff_X2_19 : FF RX2 19 2 2 2 (.array .long) := ⟨RX2, TX2, 4, tyX2, clX2, by decide, rfl, wa 46 rfl rfl, rfl, rfl, rfl⟩
set_option maxRecDepth 100000 in
theorem fl_X2_23 : FL RX2 23 2 3 2 := ⟨RX2, TX2, 4, tyX2, clX2, by decide, rfl, wa 47 rfl rfl⟩
set_option maxRecDepth 100000 in
theorem ff_X2_23 : FF RX2 23 2 3 2 (.array .long) := ⟨RX2, TX2, 4, tyX2, clX2, by decide, rfl, wa 47 rfl rfl, rfl, rfl, rfl⟩
set_option maxRecDepth 100000 in
theorem fl_X3_9 : FL RX3 9 3 0 0 := ⟨RX3, TX3, 6, tyX3, clX3, by decide, rfl, wa 160 rfl rfl⟩
set_option maxRecDepth 100000 in
theorem fw_X3_9 : FW RX3 9 3 0 0 (.int) := ⟨RX3, TX3, 6, tyX3, clX3, by decide, rfl, wa 160 rfl rfl, rfl, rfl⟩
set_option maxRecDepth 100000 in
theorem fl_X3_15 : FL RX3 15 3 1 0 := ⟨RX3, TX3, 6, tyX3, clX3, by decide, rfl, wa 162 rfl rfl⟩
set_option maxRecDepth 100000 in
theorem fw_X3_15 : FW RX3 15 3 1 0 (.int) := ⟨RX3, TX3, 6, tyX3, clX3, by decide, rfl, wa 162 rfl rfl, rfl, rfl⟩
set_option maxRecDepth 100000 in
theorem fl_X3_18 : FL RX3 18 3 2 2 := ⟨RX3, TX3, 6, tyX3, clX3, by decide, rfl, wa 163 rfl rfl⟩
set_option maxRecDepth 100000 in
theorem ff_X3_18 : FF RX3 18 3 2 2 (.array .long) := ⟨RX3, TX3, 6, tyX3, clX3, by decide, rfl, wa 163 rfl rfl, rfl, rfl, rfl⟩
set_option maxRecDepth 100000 in
theorem fl_X3_22 : FL RX3 22 3 3 2 := ⟨RX3, TX3, 6, tyX3, clX3, by decide, rfl, wa 164 rfl rfl⟩
set_option maxRecDepth 100000 in
theorem ff_X3_22 : FF RX3 22 3 3 2 (.array .int) := ⟨RX3, TX3, 6, tyX3, clX3, by decide, rfl, wa 164 rfl rfl, rfl, rfl, rfl⟩
set_option maxRecDepth 100000 in
theorem fl_X3_26 : FL RX3 26 3 4 2 := ⟨RX3, TX3, 6, tyX3, clX3, by decide, rfl, wa 165 rfl rfl⟩
set_option maxRecDepth 100000 in
theorem ff_X3_26 : FF RX3 26 3 4 2 (.array .long) := ⟨RX3, TX3, 6, tyX3, clX3, by decide, rfl, wa 165 rfl rfl, rfl, rfl, rfl⟩
set_option maxRecDepth 100000 in
theorem fl_X3_29 : FL RX3 29 3 5 2 := ⟨RX3, TX3, 6, tyX3, clX3, by decide, rfl, wa 166 rfl rfl⟩
set_option maxRecDepth 100000 in
theorem ff_X3_29 : FF RX3 29 3 5 2 (.array .long) := ⟨RX3, TX3, 6, tyX3, clX3, by decide, rfl, wa 166 rfl rfl, rfl, rfl, rfl⟩
set_option maxRecDepth 100000 in
theorem fl_X3_32 : FL RX3 32 2 0 0 := ⟨RX2, TX2, 4, tyX2, clX2, by decide, rfl, wa 43 rfl rfl⟩
set_option maxRecDepth 100000 in
theorem fl_X4_9 : FL RX4 9 4 0 0 := ⟨RX4, TX4, 2, tyX4, clX4, by decide, rfl, wa 83 rfl rfl⟩
set_option maxRecDepth 100000 in
theorem fw_X4_9 : FW RX4 9 4 0 0 (.int) := ⟨RX4, TX4, 2, tyX4, clX4, by decide, rfl, wa 83 rfl rfl, rfl, rfl⟩
set_option maxRecDepth 100000 in
theorem fl_X4_21 : FL RX4 21 4 1 2 := ⟨RX4, TX4, 2, tyX4, clX4, by decide, rfl, wa 85 rfl rfl⟩
set_option maxRecDepth 100000 in
theorem ff_X4_21 : FF RX4 21 4 1 2 (.array .int) := ⟨RX4, TX4, 2, tyX4, clX4, by decide, rfl, wa 85 rfl rfl, rfl, rfl, rfl⟩
set_option maxRecDepth 100000 in
theorem fl_X5_7 : FL RX5 7 5 0 0 := ⟨RX5, TX5, 6, tyX5, clX5, by decide, rfl, wa 188 rfl rfl⟩
set_option maxRecDepth 100000 in
theorem fw_X5_7 : FW RX5 7 5 0 0 (.int) := ⟨RX5, TX5, 6, tyX5, clX5, by decide, rfl, wa 188 rfl rfl, rfl, rfl⟩
set_option maxRecDepth 100000 in
theorem fl_X5_18 : FL RX5 18 5 1 2 := ⟨RX5, TX5, 6, tyX5, clX5, by decide, rfl, wa 190 rfl rfl⟩
set_option maxRecDepth 100000 in
theorem ff_X5_18 : FF RX5 18 5 1 2 (.object "TwoLetterForms$Rows") := ⟨RX5, TX5, 6, tyX5, clX5, by decide, rfl, wa 190 rfl rfl, rfl, rfl, rfl⟩
set_option maxRecDepth 100000 in
theorem fl_X5_22 : FL RX5 22 5 2 2 := ⟨RX5, TX5, 6, tyX5, clX5, by decide, rfl, wa 192 rfl rfl⟩
set_option maxRecDepth 100000 in
theorem ff_X5_22 : FF RX5 22 5 2 2 (.array .int) := ⟨RX5, TX5, 6, tyX5, clX5, by decide, rfl, wa 192 rfl rfl, rfl, rfl, rfl⟩
set_option maxRecDepth 100000 in
theorem fl_X5_26 : FL RX5 26 5 3 0 := ⟨RX5, TX5, 6, tyX5, clX5, by decide, rfl, wa 193 rfl rfl⟩
set_option maxRecDepth 100000 in
theorem fw_X5_26 : FW RX5 26 5 3 0 (.int) := ⟨RX5, TX5, 6, tyX5, clX5, by decide, rfl, wa 193 rfl rfl, rfl, rfl⟩
set_option maxRecDepth 100000 in
theorem fl_X5_29 : FL RX5 29 5 4 0 := ⟨RX5, TX5, 6, tyX5, clX5, by decide, rfl, wa 194 rfl rfl⟩
set_option maxRecDepth 100000 in
theorem fw_X5_29 : FW RX5 29 5 4 0 (.int) := ⟨RX5, TX5, 6, tyX5, clX5, by decide, rfl, wa 194 rfl rfl, rfl, rfl⟩
set_option maxRecDepth 100000 in
theorem fl_X5_32 : FL RX5 32 5 5 0 := ⟨RX5, TX5, 6, tyX5, clX5, by decide, rfl, wa 195 rfl rfl⟩
set_option maxRecDepth 100000 in
theorem fw_X5_32 : FW RX5 32 5 5 0 (.int) := ⟨RX5, TX5, 6, tyX5, clX5, by decide, rfl, wa 195 rfl rfl, rfl, rfl⟩
set_option maxRecDepth 100000 in
theorem fl_X6_12 : FL RX6 12 6 0 2 := ⟨RX6, TX6, 4, tyX6, clX6, by decide, rfl, wa 91 rfl rfl⟩
set_option maxRecDepth 100000 in
theorem ff_X6_12 : FF RX6 12 6 0 2 (.object "TwoLetterForms$Equation") := ⟨RX6, TX6, 4, tyX6, clX6, by decide, rfl, wa 91 rfl rfl, rfl, rfl, rfl⟩
set_option maxRecDepth 100000 in
theorem fl_X6_23 : FL RX6 23 6 1 2 := ⟨RX6, TX6, 4, tyX6, clX6, by decide, rfl, wa 93 rfl rfl⟩
set_option maxRecDepth 100000 in
theorem ff_X6_23 : FF RX6 23 6 1 2 (.object "TwoLetterForms$Rows") := ⟨RX6, TX6, 4, tyX6, clX6, by decide, rfl, wa 93 rfl rfl, rfl, rfl, rfl⟩
set_option maxRecDepth 100000 in
theorem fl_X6_27 : FL RX6 27 6 2 2 := ⟨RX6, TX6, 4, tyX6, clX6, by decide, rfl, wa 95 rfl rfl⟩
set_option maxRecDepth 100000 in
theorem ff_X6_27 : FF RX6 27 6 2 2 (.object "TwoLetterForms$Rows") := ⟨RX6, TX6, 4, tyX6, clX6, by decide, rfl, wa 95 rfl rfl, rfl, rfl, rfl⟩
set_option maxRecDepth 100000 in
theorem fl_X6_30 : FL RX6 30 6 3 2 := ⟨RX6, TX6, 4, tyX6, clX6, by decide, rfl, wa 97 rfl rfl⟩
set_option maxRecDepth 100000 in
theorem ff_X6_30 : FF RX6 30 6 3 2 (.object "TwoLetterForms$Rows") := ⟨RX6, TX6, 4, tyX6, clX6, by decide, rfl, wa 97 rfl rfl, rfl, rfl, rfl⟩
set_option maxRecDepth 100000 in
theorem fl_X7_9 : FL RX7 9 7 0 0 := ⟨RX7, TX7, 3, tyX7, clX7, by decide, rfl, wa 216 rfl rfl⟩
set_option maxRecDepth 100000 in
theorem fw_X7_9 : FW RX7 9 7 0 0 (.int) := ⟨RX7, TX7, 3, tyX7, clX7, by decide, rfl, wa 216 rfl rfl, rfl, rfl⟩
set_option maxRecDepth 100000 in
theorem fl_X7_15 : FL RX7 15 7 1 2 := ⟨RX7, TX7, 3, tyX7, clX7, by decide, rfl, wa 218 rfl rfl⟩
set_option maxRecDepth 100000 in
theorem ff_X7_15 : FF RX7 15 7 1 2 (.array .long) := ⟨RX7, TX7, 3, tyX7, clX7, by decide, rfl, wa 218 rfl rfl, rfl, rfl, rfl⟩
set_option maxRecDepth 100000 in
theorem fl_X7_19 : FL RX7 19 7 2 0 := ⟨RX7, TX7, 3, tyX7, clX7, by decide, rfl, wa 220 rfl rfl⟩
set_option maxRecDepth 100000 in
theorem fw_X7_19 : FW RX7 19 7 2 0 (.int) := ⟨RX7, TX7, 3, tyX7, clX7, by decide, rfl, wa 220 rfl rfl, rfl, rfl⟩
set_option maxRecDepth 100000 in
theorem fl_X8_7 : FL RX8 7 8 0 0 := ⟨RX8, TX8, 2, tyX8, clX8, by decide, rfl, wa 145 rfl rfl⟩
set_option maxRecDepth 100000 in
theorem fw_X8_7 : FW RX8 7 8 0 0 (.int) := ⟨RX8, TX8, 2, tyX8, clX8, by decide, rfl, wa 145 rfl rfl, rfl, rfl⟩
set_option maxRecDepth 100000 in
theorem fl_X8_13 : FL RX8 13 8 1 2 := ⟨RX8, TX8, 2, tyX8, clX8, by decide, rfl, wa 148 rfl rfl⟩
set_option maxRecDepth 100000 in
theorem ff_X8_13 : FF RX8 13 8 1 2 (.array .int) := ⟨RX8, TX8, 2, tyX8, clX8, by decide, rfl, wa 148 rfl rfl, rfl, rfl, rfl⟩
set_option maxRecDepth 100000 in
theorem fl_X10_9 : FL RX10 9 10 0 0 := ⟨RX10, TX10, 39, tyX10, clX10, by decide, rfl, wa 816 rfl rfl⟩
set_option maxRecDepth 100000 in
theorem fw_X10_9 : FW RX10 9 10 0 0 (.int) := ⟨RX10, TX10, 39, tyX10, clX10, by decide, rfl, wa 816 rfl rfl, rfl, rfl⟩
set_option maxRecDepth 100000 in
theorem fl_X10_15 : FL RX10 15 10 1 2 := ⟨RX10, TX10, 39, tyX10, clX10, by decide, rfl, wa 817 rfl rfl⟩
set_option maxRecDepth 100000 in
theorem ff_X10_15 : FF RX10 15 10 1 2 (.array .long) := ⟨RX10, TX10, 39, tyX10, clX10, by decide, rfl, wa 817 rfl rfl, rfl, rfl, rfl⟩
set_option maxRecDepth 100000 in
theorem fl_X10_19 : FL RX10 19 10 2 0 := ⟨RX10, TX10, 39, tyX10, clX10, by decide, rfl, wa 818 rfl rfl⟩
set_option maxRecDepth 100000 in
theorem fw_X10_19 : FW RX10 19 10 2 0 (.int) := ⟨RX10, TX10, 39, tyX10, clX10, by decide, rfl, wa 818 rfl rfl, rfl, rfl⟩
set_option maxRecDepth 100000 in
theorem fl_X10_22 : FL RX10 22 10 3 0 := ⟨RX10, TX10, 39, tyX10, clX10, by decide, rfl, wa 819 rfl rfl⟩
set_option maxRecDepth 100000 in
theorem fw_X10_22 : FW RX10 22 10 3 0 (.int) := ⟨RX10, TX10, 39, tyX10, clX10, by decide, rfl, wa 819 rfl rfl, rfl, rfl⟩
set_option maxRecDepth 100000 in
theorem fl_X10_25 : FL RX10 25 10 4 2 := ⟨RX10, TX10, 39, tyX10, clX10, by decide, rfl, wa 820 rfl rfl⟩
set_option maxRecDepth 100000 in
theorem ff_X10_25 : FF RX10 25 10 4 2 (.array .int) := ⟨RX10, TX10, 39, tyX10, clX10, by decide, rfl, wa 820 rfl rfl, rfl, rfl, rfl⟩
set_option maxRecDepth 100000 in
theorem fl_X10_29 : FL RX10 29 10 6 2 := ⟨RX10, TX10, 39, tyX10, clX10, by decide, rfl, wa 822 rfl rfl⟩
set_option maxRecDepth 100000 in
theorem ff_X10_29 : FF RX10 29 10 6 2 (.array .int) := ⟨RX10, TX10, 39, tyX10, clX10, by decide, rfl, wa 822 rfl rfl, rfl, rfl, rfl⟩
set_option maxRecDepth 100000 in
theorem fl_X10_32 : FL RX10 32 10 8 2 := ⟨RX10, TX10, 39, tyX10, clX10, by decide, rfl, wa 824 rfl rfl⟩
set_option maxRecDepth 100000 in
theorem ff_X10_32 : FF RX10 32 10 8 2 (.array .int) := ⟨RX10, TX10, 39, tyX10, clX10, by decide, rfl, wa 824 rfl rfl, rfl, rfl, rfl⟩
set_option maxRecDepth 100000 in
theorem fl_X10_35 : FL RX10 35 10 10 2 := ⟨RX10, TX10, 39, tyX10, clX10, by decide, rfl, wa 826 rfl rfl⟩
set_option maxRecDepth 100000 in
theorem ff_X10_35 : FF RX10 35 10 10 2 (.array .long) := ⟨RX10, TX10, 39, tyX10, clX10, by decide, rfl, wa 826 rfl rfl, rfl, rfl, rfl⟩
set_option maxRecDepth 100000 in
theorem fl_X10_38 : FL RX10 38 10 11 2 := ⟨RX10, TX10, 39, tyX10, clX10, by decide, rfl, wa 827 rfl rfl⟩
set_option maxRecDepth 100000 in
theorem ff_X10_38 : FF RX10 38 10 11 2 (.array .long) := ⟨RX10, TX10, 39, tyX10, clX10, by decide, rfl, wa 827 rfl rfl, rfl, rfl, rfl⟩
set_option maxRecDepth 100000 in
theorem fl_X10_41 : FL RX10 41 10 12 2 := ⟨RX10, TX10, 39, tyX10, clX10, by decide, rfl, wa 828 rfl rfl⟩
set_option maxRecDepth 100000 in
theorem ff_X10_41 : FF RX10 41 10 12 2 (.array .int) := ⟨RX10, TX10, 39, tyX10, clX10, by decide, rfl, wa 828 rfl rfl, rfl, rfl, rfl⟩
set_option maxRecDepth 100000 in
theorem fl_X10_44 : FL RX10 44 10 14 2 := ⟨RX10, TX10, 39, tyX10, clX10, by decide, rfl, wa 830 rfl rfl⟩
set_option maxRecDepth 100000 in
theorem ff_X10_44 : FF RX10 44 10 14 2 (.array .int) := ⟨RX10, TX10, 39, tyX10, clX10, by decide, rfl, wa 830 rfl rfl, rfl, rfl, rfl⟩
set_option maxRecDepth 100000 in
theorem fl_X10_47 : FL RX10 47 10 16 2 := ⟨RX10, TX10, 39, tyX10, clX10, by decide, rfl, wa 832 rfl rfl⟩
set_option maxRecDepth 100000 in
theorem ff_X10_47 : FF RX10 47 10 16 2 (.array .int) := ⟨RX10, TX10, 39, tyX10, clX10, by decide, rfl, wa 832 rfl rfl, rfl, rfl, rfl⟩
set_option maxRecDepth 100000 in
theorem fl_X10_50 : FL RX10 50 10 17 2 := ⟨RX10, TX10, 39, tyX10, clX10, by decide, rfl, wa 833 rfl rfl⟩
set_option maxRecDepth 100000 in
theorem ff_X10_50 : FF RX10 50 10 17 2 (.array .int) := ⟨RX10, TX10, 39, tyX10, clX10, by decide, rfl, wa 833 rfl rfl, rfl, rfl, rfl⟩
set_option maxRecDepth 100000 in
theorem fl_X10_53 : FL RX10 53 10 18 2 := ⟨RX10, TX10, 39, tyX10, clX10, by decide, rfl, wa 834 rfl rfl⟩
set_option maxRecDepth 100000 in
theorem ff_X10_53 : FF RX10 53 10 18 2 (.array .int) := ⟨RX10, TX10, 39, tyX10, clX10, by decide, rfl, wa 834 rfl rfl, rfl, rfl, rfl⟩
set_option maxRecDepth 100000 in
theorem fl_X10_56 : FL RX10 56 10 20 2 := ⟨RX10, TX10, 39, tyX10, clX10, by decide, rfl, wa 836 rfl rfl⟩
set_option maxRecDepth 100000 in
theorem ff_X10_56 : FF RX10 56 10 20 2 (.array .int) := ⟨RX10, TX10, 39, tyX10, clX10, by decide, rfl, wa 836 rfl rfl, rfl, rfl, rfl⟩
set_option maxRecDepth 100000 in
theorem fl_X10_59 : FL RX10 59 10 21 2 := ⟨RX10, TX10, 39, tyX10, clX10, by decide, rfl, wa 837 rfl rfl⟩
set_option maxRecDepth 100000 in
theorem ff_X10_59 : FF RX10 59 10 21 2 (.array .boolean) := ⟨RX10, TX10, 39, tyX10, clX10, by decide, rfl, wa 837 rfl rfl, rfl, rfl, rfl⟩
set_option maxRecDepth 100000 in
theorem fl_X10_63 : FL RX10 63 10 22 2 := ⟨RX10, TX10, 39, tyX10, clX10, by decide, rfl, wa 838 rfl rfl⟩
set_option maxRecDepth 100000 in
theorem ff_X10_63 : FF RX10 63 10 22 2 (.array .long) := ⟨RX10, TX10, 39, tyX10, clX10, by decide, rfl, wa 838 rfl rfl, rfl, rfl, rfl⟩
set_option maxRecDepth 100000 in
theorem fl_X10_66 : FL RX10 66 10 23 2 := ⟨RX10, TX10, 39, tyX10, clX10, by decide, rfl, wa 839 rfl rfl⟩
set_option maxRecDepth 100000 in
theorem ff_X10_66 : FF RX10 66 10 23 2 (.array .long) := ⟨RX10, TX10, 39, tyX10, clX10, by decide, rfl, wa 839 rfl rfl, rfl, rfl, rfl⟩
set_option maxRecDepth 100000 in
theorem fl_X10_69 : FL RX10 69 10 24 2 := ⟨RX10, TX10, 39, tyX10, clX10, by decide, rfl, wa 840 rfl rfl⟩
set_option maxRecDepth 100000 in
theorem ff_X10_69 : FF RX10 69 10 24 2 (.array .int) := ⟨RX10, TX10, 39, tyX10, clX10, by decide, rfl, wa 840 rfl rfl, rfl, rfl, rfl⟩
set_option maxRecDepth 100000 in
theorem fl_X10_72 : FL RX10 72 10 28 2 := ⟨RX10, TX10, 39, tyX10, clX10, by decide, rfl, wa 844 rfl rfl⟩
set_option maxRecDepth 100000 in
theorem ff_X10_72 : FF RX10 72 10 28 2 (.array .int) := ⟨RX10, TX10, 39, tyX10, clX10, by decide, rfl, wa 844 rfl rfl, rfl, rfl, rfl⟩
set_option maxRecDepth 100000 in
theorem fl_X10_75 : FL RX10 75 10 31 2 := ⟨RX10, TX10, 39, tyX10, clX10, by decide, rfl, wa 847 rfl rfl⟩
set_option maxRecDepth 100000 in
theorem ff_X10_75 : FF RX10 75 10 31 2 (.array .int) := ⟨RX10, TX10, 39, tyX10, clX10, by decide, rfl, wa 847 rfl rfl, rfl, rfl, rfl⟩
set_option maxRecDepth 100000 in
theorem fl_X10_78 : FL RX10 78 10 32 2 := ⟨RX10, TX10, 39, tyX10, clX10, by decide, rfl, wa 848 rfl rfl⟩
set_option maxRecDepth 100000 in
theorem ff_X10_78 : FF RX10 78 10 32 2 (.array .long) := ⟨RX10, TX10, 39, tyX10, clX10, by decide, rfl, wa 848 rfl rfl, rfl, rfl, rfl⟩
set_option maxRecDepth 100000 in
theorem fl_X10_81 : FL RX10 81 10 33 2 := ⟨RX10, TX10, 39, tyX10, clX10, by decide, rfl, wa 849 rfl rfl⟩
set_option maxRecDepth 100000 in
theorem ff_X10_81 : FF RX10 81 10 33 2 (.array .int) := ⟨RX10, TX10, 39, tyX10, clX10, by decide, rfl, wa 849 rfl rfl, rfl, rfl, rfl⟩
set_option maxRecDepth 100000 in
theorem fl_X10_84 : FL RX10 84 10 34 2 := ⟨RX10, TX10, 39, tyX10, clX10, by decide, rfl, wa 850 rfl rfl⟩
set_option maxRecDepth 100000 in
theorem ff_X10_84 : FF RX10 84 10 34 2 (.array .int) := ⟨RX10, TX10, 39, tyX10, clX10, by decide, rfl, wa 850 rfl rfl, rfl, rfl, rfl⟩
set_option maxRecDepth 100000 in
theorem fl_X10_87 : FL RX10 87 10 35 2 := ⟨RX10, TX10, 39, tyX10, clX10, by decide, rfl, wa 851 rfl rfl⟩
set_option maxRecDepth 100000 in
theorem ff_X10_87 : FF RX10 87 10 35 2 (.array .long) := ⟨RX10, TX10, 39, tyX10, clX10, by decide, rfl, wa 851 rfl rfl, rfl, rfl, rfl⟩
set_option maxRecDepth 100000 in
theorem fl_X10_90 : FL RX10 90 10 37 2 := ⟨RX10, TX10, 39, tyX10, clX10, by decide, rfl, wa 853 rfl rfl⟩
set_option maxRecDepth 100000 in
theorem ff_X10_90 : FF RX10 90 10 37 2 (.array .long) := ⟨RX10, TX10, 39, tyX10, clX10, by decide, rfl, wa 853 rfl rfl, rfl, rfl, rfl⟩
set_option maxRecDepth 100000 in
theorem fl_X10_93 : FL RX10 93 10 38 2 := ⟨RX10, TX10, 39, tyX10, clX10, by decide, rfl, wa 854 rfl rfl⟩
set_option maxRecDepth 100000 in
theorem ff_X10_93 : FF RX10 93 10 38 2 (.array .int) := ⟨RX10, TX10, 39, tyX10, clX10, by decide, rfl, wa 854 rfl rfl, rfl, rfl, rfl⟩
set_option maxRecDepth 100000 in
theorem fl_X10_143 : FL RX10 143 10 13 0 := ⟨RX10, TX10, 39, tyX10, clX10, by decide, rfl, wa 829 rfl rfl⟩
set_option maxRecDepth 100000 in
theorem fw_X10_143 : FW RX10 143 10 13 0 (.int) := ⟨RX10, TX10, 39, tyX10, clX10, by decide, rfl, wa 829 rfl rfl, rfl, rfl⟩
set_option maxRecDepth 100000 in
theorem fl_X10_150 : FL RX10 150 10 15 0 := ⟨RX10, TX10, 39, tyX10, clX10, by decide, rfl, wa 831 rfl rfl⟩
set_option maxRecDepth 100000 in
theorem fw_X10_150 : FW RX10 150 10 15 0 (.int) := ⟨RX10, TX10, 39, tyX10, clX10, by decide, rfl, wa 831 rfl rfl, rfl, rfl⟩
set_option maxRecDepth 100000 in
theorem fl_X10_171 : FL RX10 171 10 19 0 := ⟨RX10, TX10, 39, tyX10, clX10, by decide, rfl, wa 835 rfl rfl⟩
set_option maxRecDepth 100000 in
theorem fw_X10_171 : FW RX10 171 10 19 0 (.int) := ⟨RX10, TX10, 39, tyX10, clX10, by decide, rfl, wa 835 rfl rfl, rfl, rfl⟩
set_option maxRecDepth 100000 in
theorem fl_X10_194 : FL RX10 194 10 25 0 := ⟨RX10, TX10, 39, tyX10, clX10, by decide, rfl, wa 841 rfl rfl⟩
set_option maxRecDepth 100000 in
theorem fw_X10_194 : FW RX10 194 10 25 0 (.int) := ⟨RX10, TX10, 39, tyX10, clX10, by decide, rfl, wa 841 rfl rfl, rfl, rfl⟩
set_option maxRecDepth 100000 in
theorem fl_X10_203 : FL RX10 203 10 26 1 := ⟨RX10, TX10, 39, tyX10, clX10, by decide, rfl, wa 842 rfl rfl⟩
set_option maxRecDepth 100000 in
theorem fw_X10_203 : FW RX10 203 10 26 1 (.long) := ⟨RX10, TX10, 39, tyX10, clX10, by decide, rfl, wa 842 rfl rfl, rfl, rfl⟩
set_option maxRecDepth 100000 in
theorem fl_X10_207 : FL RX10 207 10 27 1 := ⟨RX10, TX10, 39, tyX10, clX10, by decide, rfl, wa 843 rfl rfl⟩
set_option maxRecDepth 100000 in
theorem fw_X10_207 : FW RX10 207 10 27 1 (.long) := ⟨RX10, TX10, 39, tyX10, clX10, by decide, rfl, wa 843 rfl rfl, rfl, rfl⟩
set_option maxRecDepth 100000 in
theorem fl_X10_233 : FL RX10 233 10 29 0 := ⟨RX10, TX10, 39, tyX10, clX10, by decide, rfl, wa 845 rfl rfl⟩
set_option maxRecDepth 100000 in
theorem fw_X10_233 : FW RX10 233 10 29 0 (.int) := ⟨RX10, TX10, 39, tyX10, clX10, by decide, rfl, wa 845 rfl rfl, rfl, rfl⟩
set_option maxRecDepth 100000 in
theorem fl_X10_236 : FL RX10 236 10 30 0 := ⟨RX10, TX10, 39, tyX10, clX10, by decide, rfl, wa 846 rfl rfl⟩
set_option maxRecDepth 100000 in
theorem fw_X10_236 : FW RX10 236 10 30 0 (.int) := ⟨RX10, TX10, 39, tyX10, clX10, by decide, rfl, wa 846 rfl rfl, rfl, rfl⟩
set_option maxRecDepth 100000 in
theorem fl_X10_276 : FL RX10 276 10 5 0 := ⟨RX10, TX10, 39, tyX10, clX10, by decide, rfl, wa 821 rfl rfl⟩
set_option maxRecDepth 100000 in
theorem fw_X10_276 : FW RX10 276 10 5 0 (.int) := ⟨RX10, TX10, 39, tyX10, clX10, by decide, rfl, wa 821 rfl rfl, rfl, rfl⟩
set_option maxRecDepth 100000 in
theorem fl_X10_283 : FL RX10 283 10 7 0 := ⟨RX10, TX10, 39, tyX10, clX10, by decide, rfl, wa 823 rfl rfl⟩
set_option maxRecDepth 100000 in
theorem fw_X10_283 : FW RX10 283 10 7 0 (.int) := ⟨RX10, TX10, 39, tyX10, clX10, by decide, rfl, wa 823 rfl rfl, rfl, rfl⟩
set_option maxRecDepth 100000 in
theorem fl_X10_296 : FL RX10 296 10 9 0 := ⟨RX10, TX10, 39, tyX10, clX10, by decide, rfl, wa 825 rfl rfl⟩
set_option maxRecDepth 100000 in
theorem fw_X10_296 : FW RX10 296 10 9 0 (.int) := ⟨RX10, TX10, 39, tyX10, clX10, by decide, rfl, wa 825 rfl rfl, rfl, rfl⟩
set_option maxRecDepth 100000 in
theorem fl_X10_306 : FL RX10 306 10 36 0 := ⟨RX10, TX10, 39, tyX10, clX10, by decide, rfl, wa 852 rfl rfl⟩
set_option maxRecDepth 100000 in
theorem fw_X10_306 : FW RX10 306 10 36 0 (.boolean) := ⟨RX10, TX10, 39, tyX10, clX10, by decide, rfl, wa 852 rfl rfl, rfl, rfl⟩
set_option maxRecDepth 100000 in
theorem sl_X9_181 : Cond.fieldLink RX9 181 "TwoLetterForms" "PRIMES" "[I" ∈ WSA := wa 584 rfl rfl
set_option maxRecDepth 100000 in
theorem sl_X1_53 : Cond.fieldLinkNest RX1 53 "TwoLetterForms" "PRIMES" "[I" "TwoLetterForms" ∈ tables_1 := List.mem_of_getElem? (i := 619) rfl
set_option maxRecDepth 100000 in
theorem sl_X2_67 : Cond.fieldLink RX2 67 "TwoLetterForms$Form" "MOVE_TURNS" "[I" ∈ WSA := wa 307 rfl rfl
set_option maxRecDepth 100000 in
theorem ml_X9_3 : Cond.methodLink RX9 3 Lib.objectInit ∈ WSA := wa 21 rfl rfl
set_option maxRecDepth 100000 in
theorem ml_X9_11 : Cond.methodLinkNest RX9 11 yX6_init "TwoLetterForms" ∈ tables_1 := List.mem_of_getElem? (i := 26) rfl
set_option maxRecDepth 100000 in
theorem ml_X9_27 : Cond.methodLinkNest RX9 27 yX1_init "TwoLetterForms" ∈ tables_1 := List.mem_of_getElem? (i := 109) rfl
set_option maxRecDepth 100000 in
theorem ml_X9_34 : Cond.methodLinkNest RX9 34 yX0_init "TwoLetterForms" ∈ tables_1 := List.mem_of_getElem? (i := 112) rfl
set_option maxRecDepth 100000 in
theorem ml_X9_41 : Cond.methodLinkNest RX9 41 yX8_init "TwoLetterForms" ∈ tables_1 := List.mem_of_getElem? (i := 141) rfl
set_option maxRecDepth 100000 in
theorem ml_X9_48 : Cond.methodLinkNest RX9 48 yX3_init "TwoLetterForms" ∈ tables_1 := List.mem_of_getElem? (i := 156) rfl
set_option maxRecDepth 100000 in
theorem ml_X9_55 : Cond.methodLinkNest RX9 55 yX5_init "TwoLetterForms" ∈ tables_1 := List.mem_of_getElem? (i := 182) rfl
set_option maxRecDepth 100000 in
theorem ml_X9_66 : Cond.methodLinkNest RX9 66 yX7_init "TwoLetterForms" ∈ tables_1 := List.mem_of_getElem? (i := 212) rfl
set_option maxRecDepth 100000 in
theorem ml_X9_67 : Cond.methodLink RX9 67 yX9_between ∈ WSA := wa 260 rfl rfl
set_option maxRecDepth 100000 in
theorem ml_X9_84 : Cond.methodLink RX9 84 yX2_clear ∈ WSA := wa 263 rfl rfl
set_option maxRecDepth 100000 in
theorem ml_X9_88 : Cond.methodLink RX9 88 yX2_has ∈ WSA := wa 274 rfl rfl
set_option maxRecDepth 100000 in
theorem ml_X9_92 : Cond.methodLink RX9 92 yX2_get ∈ WSA := wa 278 rfl rfl
set_option maxRecDepth 100000 in
theorem ml_X9_96 : Cond.methodLink RX9 96 yX2_set ∈ WSA := wa 283 rfl rfl
set_option maxRecDepth 100000 in
theorem ml_X9_106 : Cond.methodLink RX9 106 yX2_isMove ∈ WSA := wa 299 rfl rfl
set_option maxRecDepth 100000 in
theorem ml_X9_109 : Cond.methodLink RX9 109 yX2_moveBy ∈ WSA := wa 302 rfl rfl
set_option maxRecDepth 100000 in
theorem ml_X9_112 : Cond.methodLink RX9 112 yX9_isTurn ∈ WSA := wa 329 rfl rfl
set_option maxRecDepth 100000 in
theorem ml_X9_115 : Cond.methodLink RX9 115 yX2_turnBy ∈ WSA := wa 332 rfl rfl
set_option maxRecDepth 100000 in
theorem ml_X9_119 : Cond.methodLink RX9 119 yX5_add ∈ WSA := wa 337 rfl rfl
set_option maxRecDepth 100000 in
theorem ml_X9_125 : Cond.methodLink RX9 125 yX5_findFault ∈ WSA := wa 345 rfl rfl
set_option maxRecDepth 100000 in
theorem ml_X9_136 : Cond.methodLink RX9 136 yX9_clauseAnswer ∈ WSA := wa 386 rfl rfl
set_option maxRecDepth 100000 in
theorem ml_X9_139 : Cond.methodLink RX9 139 yX9_answersNow ∈ WSA := wa 419 rfl rfl
set_option maxRecDepth 100000 in
theorem ml_X9_144 : Cond.methodLink RX9 144 yX9_unitsNow ∈ WSA := wa 468 rfl rfl
set_option maxRecDepth 100000 in
theorem ml_X9_149 : Cond.methodLink RX9 149 yX9_answersInFamilies ∈ WSA := wa 484 rfl rfl
set_option maxRecDepth 100000 in
theorem ml_X9_155 : Cond.methodLink RX9 155 yX9_partsNow ∈ WSA := wa 519 rfl rfl
set_option maxRecDepth 100000 in
theorem ml_X9_160 : Cond.methodLink RX9 160 yX9_convergentAnswers ∈ WSA := wa 550 rfl rfl
set_option maxRecDepth 100000 in
theorem ml_X9_165 : Cond.methodLink RX9 165 yX2_at ∈ WSA := wa 568 rfl rfl
set_option maxRecDepth 100000 in
theorem ml_X9_169 : Cond.methodLink RX9 169 yX0_cellOfAnswer ∈ WSA := wa 573 rfl rfl
set_option maxRecDepth 100000 in
theorem ml_X9_172 : Cond.methodLink RX9 172 yX0_xOf ∈ WSA := wa 577 rfl rfl
set_option maxRecDepth 100000 in
theorem ml_X9_175 : Cond.methodLink RX9 175 yX0_yOf ∈ WSA := wa 578 rfl rfl
set_option maxRecDepth 100000 in
theorem ml_X9_178 : Cond.methodLink RX9 178 yX0_labelAt ∈ WSA := wa 579 rfl rfl
set_option maxRecDepth 100000 in
theorem ml_X9_185 : Cond.methodLink RX9 185 yX2_remaindersBy ∈ WSA := wa 586 rfl rfl
set_option maxRecDepth 100000 in
theorem ml_X9_188 : Cond.methodLink RX9 188 yJ6_bitCount_0f7a4 ∈ WSA := wa 597 rfl rfl
set_option maxRecDepth 100000 in
theorem ml_X9_193 : Cond.methodLink RX9 193 yX1_isBarredBy ∈ WSA := wa 603 rfl rfl
set_option maxRecDepth 100000 in
theorem ml_X9_196 : Cond.methodLink RX9 196 yX1_firstBar ∈ WSA := wa 615 rfl rfl
set_option maxRecDepth 100000 in
theorem ml_X9_199 : Cond.methodLink RX9 199 yX8_get ∈ WSA := wa 625 rfl rfl
set_option maxRecDepth 100000 in
theorem ml_X9_202 : Cond.methodLink RX9 202 yX0_sizeOfFamily ∈ WSA := wa 630 rfl rfl
set_option maxRecDepth 100000 in
theorem ml_X9_205 : Cond.methodLink RX9 205 yX3_get ∈ WSA := wa 638 rfl rfl
set_option maxRecDepth 100000 in
theorem ml_X9_206 : Cond.methodLink RX9 206 yX3_above ∈ WSA := wa 554 rfl rfl
set_option maxRecDepth 100000 in
theorem ml_X9_210 : Cond.methodLink RX9 210 yX3_below ∈ WSA := wa 558 rfl rfl
set_option maxRecDepth 100000 in
theorem ml_X9_216 : Cond.methodLink RX9 216 yX4_empty ∈ WSA := wa 650 rfl rfl
set_option maxRecDepth 100000 in
theorem ml_X9_219 : Cond.methodLink RX9 219 yX4_add ∈ WSA := wa 651 rfl rfl
set_option maxRecDepth 100000 in
theorem ml_X9_222 : Cond.methodLink RX9 222 yX2_copy ∈ WSA := wa 656 rfl rfl
set_option maxRecDepth 100000 in
theorem ml_X9_226 : Cond.methodLink RX9 226 yX9_isAsSeen ∈ WSA := wa 657 rfl rfl
set_option maxRecDepth 100000 in
theorem ml_X9_230 : Cond.methodLink RX9 230 yX1_valuesAboveM ∈ WSA := wa 665 rfl rfl
set_option maxRecDepth 100000 in
theorem ml_X9_234 : Cond.methodLink RX9 234 yX1_twos ∈ WSA := wa 669 rfl rfl
set_option maxRecDepth 100000 in
theorem ml_X9_237 : Cond.methodLink RX9 237 yX9_lowest ∈ WSA := wa 674 rfl rfl
set_option maxRecDepth 100000 in
theorem ml_X9_241 : Cond.methodLink RX9 241 yX1_valuesTogether ∈ WSA := wa 687 rfl rfl
set_option maxRecDepth 100000 in
theorem ml_X9_247 : Cond.methodLink RX9 247 yX9_tryEvents ∈ WSA := wa 699 rfl rfl
set_option maxRecDepth 100000 in
theorem ml_X9_250 : Cond.methodLink RX9 250 yX1_howManyAnswers ∈ WSA := wa 718 rfl rfl
set_option maxRecDepth 100000 in
theorem ml_X9_253 : Cond.methodLink RX9 253 yX8_look ∈ WSA := wa 472 rfl rfl
set_option maxRecDepth 100000 in
theorem ml_X9_259 : Cond.methodLink RX9 259 yX4_first ∈ WSA := wa 402 rfl rfl
set_option maxRecDepth 100000 in
theorem ml_X9_262 : Cond.methodLink RX9 262 yX4_second ∈ WSA := wa 390 rfl rfl
set_option maxRecDepth 100000 in
theorem ml_X9_265 : Cond.methodLink RX9 265 yX9_tapeAt ∈ WSA := wa 734 rfl rfl
set_option maxRecDepth 100000 in
theorem ml_X9_269 : Cond.methodLink RX9 269 yX7_holdsNothing ∈ WSA := wa 738 rfl rfl
set_option maxRecDepth 100000 in
theorem ml_X9_276 : Cond.methodLink RX9 276 yX7_has ∈ WSA := wa 742 rfl rfl
set_option maxRecDepth 100000 in
theorem ml_X9_277 : Cond.methodLink RX9 277 yX7_get ∈ WSA := wa 746 rfl rfl
set_option maxRecDepth 100000 in
theorem ml_X9_279 : Cond.methodLink RX9 279 yX6_copy ∈ WSA := wa 755 rfl rfl
set_option maxRecDepth 100000 in
theorem ml_X9_282 : Cond.methodLink RX9 282 yX7_become ∈ WSA := wa 778 rfl rfl
set_option maxRecDepth 100000 in
theorem ml_X9_285 : Cond.methodLink RX9 285 yX7_set ∈ WSA := wa 789 rfl rfl
set_option maxRecDepth 100000 in
theorem ml_X9_288 : Cond.methodLink RX9 288 yX7_hasAll ∈ WSA := wa 805 rfl rfl
set_option maxRecDepth 100000 in
theorem ml_X9_296 : Cond.methodLink RX9 296 arraycopyName ∈ WSA := wa 809 rfl rfl
set_option maxRecDepth 100000 in
theorem ml_X9_302 : Cond.methodLink RX9 302 yJ9_abs_067f4 ∈ WSA := wa 677 rfl rfl
set_option maxRecDepth 100000 in
theorem ml_X9_308 : Cond.methodLink RX9 308 yX9_commonDivisor ∈ WSA := wa 680 rfl rfl
set_option maxRecDepth 100000 in
theorem ml_X9_311 : Cond.methodLink RX9 311 yX0_look ∈ WSA := wa 423 rfl rfl
set_option maxRecDepth 100000 in
theorem ml_X9_314 : Cond.methodLink RX9 314 yX0_findFamilies ∈ WSA := wa 488 rfl rfl
set_option maxRecDepth 100000 in
theorem ml_X9_318 : Cond.methodLink RX9 318 yX3_look ∈ WSA := wa 523 rfl rfl
set_option maxRecDepth 100000 in
theorem ml_X9_319 : Cond.methodLink RX9 319 yX1_isAnswer ∈ WSA := wa 562 rfl rfl
set_option maxRecDepth 100000 in
theorem ml_X9_323 : Cond.methodLink RX9 323 yX4_third ∈ WSA := wa 398 rfl rfl
set_option maxRecDepth 100000 in
theorem ml_X9_326 : Cond.methodLink RX9 326 yX9_degree ∈ WSA := wa 406 rfl rfl
set_option maxRecDepth 100000 in
theorem ml_X9_328 : Cond.methodLink RX9 328 yX9_number ∈ WSA := wa 407 rfl rfl
set_option maxRecDepth 100000 in
theorem ml_X9_331 : Cond.methodLink RX9 331 yX9_equal ∈ WSA := wa 408 rfl rfl
set_option maxRecDepth 100000 in
theorem ml_X9_334 : Cond.methodLink RX9 334 yX9_window ∈ WSA := wa 409 rfl rfl
set_option maxRecDepth 100000 in
theorem ml_X9_337 : Cond.methodLink RX9 337 yX9_move ∈ WSA := wa 410 rfl rfl
set_option maxRecDepth 100000 in
theorem ml_X9_340 : Cond.methodLink RX9 340 yX1_copy ∈ WSA := wa 703 rfl rfl
set_option maxRecDepth 100000 in
theorem ml_X9_342 : Cond.methodLink RX9 342 yX2_raise ∈ WSA := wa 704 rfl rfl
set_option maxRecDepth 100000 in
theorem ml_X9_345 : Cond.methodLink RX9 345 yX1_addToM ∈ WSA := wa 713 rfl rfl
set_option maxRecDepth 100000 in
theorem ml_X0_3 : Cond.methodLink RX0 3 Lib.objectInit ∈ WSA := wa 115 rfl rfl
set_option maxRecDepth 100000 in
theorem ml_X0_27 : Cond.methodLinkNest RX0 27 yX1_init "TwoLetterForms" ∈ tables_1 := List.mem_of_getElem? (i := 117) rfl
set_option maxRecDepth 100000 in
theorem ml_X0_36 : Cond.methodLink RX0 36 yX1_isLike ∈ WSA := wa 427 rfl rfl
set_option maxRecDepth 100000 in
theorem ml_X0_40 : Cond.methodLink RX0 40 yX1_copy ∈ WSA := wa 435 rfl rfl
set_option maxRecDepth 100000 in
theorem ml_X0_44 : Cond.methodLink RX0 44 yJ7_fill_53178 ∈ WSA := wa 446 rfl rfl
set_option maxRecDepth 100000 in
theorem ml_X0_53 : Cond.methodLink RX0 53 yX1_isAnswer ∈ WSA := wa 447 rfl rfl
set_option maxRecDepth 100000 in
theorem ml_X0_57 : Cond.methodLink RX0 57 yX0_cellAt ∈ WSA := wa 459 rfl rfl
set_option maxRecDepth 100000 in
theorem ml_X0_61 : Cond.methodLink RX0 61 yX0_setLabel ∈ WSA := wa 464 rfl rfl
set_option maxRecDepth 100000 in
theorem ml_X0_69 : Cond.methodLink RX0 69 yX8_look ∈ WSA := wa 492 rfl rfl
set_option maxRecDepth 100000 in
theorem ml_X0_75 : Cond.methodLink RX0 75 yX0_spread ∈ WSA := wa 493 rfl rfl
set_option maxRecDepth 100000 in
theorem ml_X0_79 : Cond.methodLink RX0 79 yX1_hasInWindow ∈ WSA := wa 463 rfl rfl
set_option maxRecDepth 100000 in
theorem ml_X0_82 : Cond.methodLink RX0 82 yX0_await ∈ WSA := wa 497 rfl rfl
set_option maxRecDepth 100000 in
theorem ml_X0_85 : Cond.methodLink RX0 85 yX0_behind ∈ WSA := wa 505 rfl rfl
set_option maxRecDepth 100000 in
theorem ml_X0_90 : Cond.methodLink RX0 90 yX8_get ∈ WSA := wa 509 rfl rfl
set_option maxRecDepth 100000 in
theorem ml_X0_93 : Cond.methodLink RX0 93 yX0_xOf ∈ WSA := wa 513 rfl rfl
set_option maxRecDepth 100000 in
theorem ml_X0_96 : Cond.methodLink RX0 96 yX0_yOf ∈ WSA := wa 516 rfl rfl
set_option maxRecDepth 100000 in
theorem ml_X0_99 : Cond.methodLink RX0 99 yX0_labelAt ∈ WSA := wa 501 rfl rfl
set_option maxRecDepth 100000 in
theorem ml_X1_3 : Cond.methodLink RX1 3 Lib.objectInit ∈ WSA := wa 35 rfl rfl
set_option maxRecDepth 100000 in
theorem ml_X1_11 : Cond.methodLinkNest RX1 11 yX2_init "TwoLetterForms" ∈ tables_1 := List.mem_of_getElem? (i := 38) rfl
set_option maxRecDepth 100000 in
theorem ml_X1_25 : Cond.methodLink RX1 25 yX2_copy ∈ WSA := wa 439 rfl rfl
set_option maxRecDepth 100000 in
theorem ml_X1_29 : Cond.methodLink RX1 29 yX2_isLike ∈ WSA := wa 431 rfl rfl
set_option maxRecDepth 100000 in
theorem ml_X1_33 : Cond.methodLink RX1 33 yX1_hasInWindow ∈ WSA := wa 451 rfl rfl
set_option maxRecDepth 100000 in
theorem ml_X1_37 : Cond.methodLink RX1 37 yX2_at ∈ WSA := wa 455 rfl rfl
set_option maxRecDepth 100000 in
theorem ml_X1_43 : Cond.methodLink RX1 43 yX2_remaindersBy ∈ WSA := wa 607 rfl rfl
set_option maxRecDepth 100000 in
theorem ml_X1_47 : Cond.methodLink RX1 47 yJ9_floorMod_7cf53 ∈ WSA := wa 608 rfl rfl
set_option maxRecDepth 100000 in
theorem ml_X1_57 : Cond.methodLink RX1 57 yX1_isBarredBy ∈ WSA := wa 620 rfl rfl
set_option maxRecDepth 100000 in
theorem ml_X1_61 : Cond.methodLinkNest RX1 61 yX9_between "TwoLetterForms" ∈ tables_1 := List.mem_of_getElem? (i := 717) rfl
set_option maxRecDepth 100000 in
theorem ml_X2_3 : Cond.methodLink RX2 3 Lib.objectInit ∈ WSA := wa 41 rfl rfl
set_option maxRecDepth 100000 in
theorem ml_X2_26 : Cond.methodLink RX2 26 yJ7_fill_53178 ∈ WSA := wa 267 rfl rfl
set_option maxRecDepth 100000 in
theorem ml_X2_32 : Cond.methodLink RX2 32 arraycopyName ∈ WSA := wa 443 rfl rfl
set_option maxRecDepth 100000 in
theorem ml_X2_38 : Cond.methodLink RX2 38 yX2_has ∈ WSA := wa 282 rfl rfl
set_option maxRecDepth 100000 in
theorem ml_X2_42 : Cond.methodLink RX2 42 yX2_get ∈ WSA := wa 708 rfl rfl
set_option maxRecDepth 100000 in
theorem ml_X2_46 : Cond.methodLink RX2 46 yJ9_min_7cf53 ∈ WSA := wa 709 rfl rfl
set_option maxRecDepth 100000 in
theorem ml_X2_52 : Cond.methodLink RX2 52 yX2_set ∈ WSA := wa 712 rfl rfl
set_option maxRecDepth 100000 in
theorem ml_X2_56 : Cond.methodLink RX2 56 yX2_at ∈ WSA := wa 590 rfl rfl
set_option maxRecDepth 100000 in
theorem ml_X2_60 : Cond.methodLink RX2 60 yJ9_floorMod_1978a ∈ WSA := wa 591 rfl rfl
set_option maxRecDepth 100000 in
theorem ml_X2_64 : Cond.methodLink RX2 64 yX2_isMove ∈ WSA := wa 306 rfl rfl
set_option maxRecDepth 100000 in
theorem ml_X2_70 : Cond.methodLink RX2 70 yX2_turnBy ∈ WSA := wa 309 rfl rfl
set_option maxRecDepth 100000 in
theorem ml_X2_74 : Cond.methodLink RX2 74 yX2_findTurned ∈ WSA := wa 313 rfl rfl
set_option maxRecDepth 100000 in
theorem ml_X2_82 : Cond.methodLink RX2 82 yJ7_fill_d0a16 ∈ WSA := wa 317 rfl rfl
set_option maxRecDepth 100000 in
theorem ml_X2_85 : Cond.methodLink RX2 85 yX2_multiply ∈ WSA := wa 320 rfl rfl
set_option maxRecDepth 100000 in
theorem ml_X3_3 : Cond.methodLink RX3 3 Lib.objectInit ∈ WSA := wa 159 rfl rfl
set_option maxRecDepth 100000 in
theorem ml_X3_35 : Cond.methodLink RX3 35 yX2_get ∈ WSA := wa 527 rfl rfl
set_option maxRecDepth 100000 in
theorem ml_X3_39 : Cond.methodLink RX3 39 yX3_greatestFrom ∈ WSA := wa 528 rfl rfl
set_option maxRecDepth 100000 in
theorem ml_X3_42 : Cond.methodLink RX3 42 yX3_keep ∈ WSA := wa 536 rfl rfl
set_option maxRecDepth 100000 in
theorem ml_X3_46 : Cond.methodLink RX3 46 yX3_at ∈ WSA := wa 532 rfl rfl
set_option maxRecDepth 100000 in
theorem ml_X3_50 : Cond.methodLink RX3 50 yX3_goBehind ∈ WSA := wa 540 rfl rfl
set_option maxRecDepth 100000 in
theorem ml_X3_53 : Cond.methodLink RX3 53 yX3_isRowBeyond ∈ WSA := wa 544 rfl rfl
set_option maxRecDepth 100000 in
theorem ml_X4_3 : Cond.methodLink RX4 3 Lib.objectInit ∈ WSA := wa 79 rfl rfl
set_option maxRecDepth 100000 in
theorem ml_X4_15 : Cond.methodLink RX4 15 yJ9_max_7cf53 ∈ WSA := wa 80 rfl rfl
set_option maxRecDepth 100000 in
theorem ml_X4_25 : Cond.methodLink RX4 25 yJ9_min_7cf53 ∈ WSA := wa 764 rfl rfl
set_option maxRecDepth 100000 in
theorem ml_X4_28 : Cond.methodLink RX4 28 arraycopyName ∈ WSA := wa 765 rfl rfl
set_option maxRecDepth 100000 in
theorem ml_X4_34 : Cond.methodLink RX4 34 yX4_cell ∈ WSA := wa 394 rfl rfl
set_option maxRecDepth 100000 in
theorem ml_X5_1 : Cond.methodLink RX5 1 Lib.objectInit ∈ WSA := wa 185 rfl rfl
set_option maxRecDepth 100000 in
theorem ml_X5_15 : Cond.methodLink RX5 15 yX4_init ∈ WSA := wa 187 rfl rfl
set_option maxRecDepth 100000 in
theorem ml_X5_35 : Cond.methodLink RX5 35 yX4_empty ∈ WSA := wa 349 rfl rfl
set_option maxRecDepth 100000 in
theorem ml_X5_39 : Cond.methodLink RX5 39 yX5_takeClause ∈ WSA := wa 353 rfl rfl
set_option maxRecDepth 100000 in
theorem ml_X5_43 : Cond.methodLink RX5 43 yX5_next ∈ WSA := wa 357 rfl rfl
set_option maxRecDepth 100000 in
theorem ml_X5_46 : Cond.methodLink RX5 46 yX5_isKind ∈ WSA := wa 361 rfl rfl
set_option maxRecDepth 100000 in
theorem ml_X5_50 : Cond.methodLink RX5 50 yX5_hasDigit ∈ WSA := wa 364 rfl rfl
set_option maxRecDepth 100000 in
theorem ml_X5_53 : Cond.methodLink RX5 53 yX5_takeDigit ∈ WSA := wa 370 rfl rfl
set_option maxRecDepth 100000 in
theorem ml_X5_56 : Cond.methodLink RX5 56 yX5_hasNumber ∈ WSA := wa 367 rfl rfl
set_option maxRecDepth 100000 in
theorem ml_X5_59 : Cond.methodLink RX5 59 yX5_takeNumber ∈ WSA := wa 378 rfl rfl
set_option maxRecDepth 100000 in
theorem ml_X5_62 : Cond.methodLink RX5 62 yX4_add ∈ WSA := wa 382 rfl rfl
set_option maxRecDepth 100000 in
theorem ml_X5_66 : Cond.methodLink RX5 66 yX5_isAtDigit ∈ WSA := wa 374 rfl rfl
set_option maxRecDepth 100000 in
theorem ml_X6_3 : Cond.methodLink RX6 3 Lib.objectInit ∈ WSA := wa 29 rfl rfl
set_option maxRecDepth 100000 in
theorem ml_X6_11 : Cond.methodLinkNest RX6 11 yX1_init "TwoLetterForms" ∈ tables_1 := List.mem_of_getElem? (i := 32) rfl
set_option maxRecDepth 100000 in
theorem ml_X6_20 : Cond.methodLink RX6 20 yX4_init ∈ WSA := wa 76 rfl rfl
set_option maxRecDepth 100000 in
theorem ml_X6_33 : Cond.methodLink RX6 33 yX1_copy ∈ WSA := wa 759 rfl rfl
set_option maxRecDepth 100000 in
theorem ml_X6_37 : Cond.methodLink RX6 37 yX4_copy ∈ WSA := wa 760 rfl rfl
set_option maxRecDepth 100000 in
theorem ml_X7_3 : Cond.methodLink RX7 3 Lib.objectInit ∈ WSA := wa 215 rfl rfl
set_option maxRecDepth 100000 in
theorem ml_X7_22 : Cond.methodLink RX7 22 yJ9_min_7cf53 ∈ WSA := wa 782 rfl rfl
set_option maxRecDepth 100000 in
theorem ml_X7_28 : Cond.methodLink RX7 28 yJ9_max_7cf53 ∈ WSA := wa 783 rfl rfl
set_option maxRecDepth 100000 in
theorem ml_X7_31 : Cond.methodLink RX7 31 yJ7_fill_d0a16 ∈ WSA := wa 784 rfl rfl
set_option maxRecDepth 100000 in
theorem ml_X7_37 : Cond.methodLink RX7 37 yX7_has ∈ WSA := wa 750 rfl rfl
set_option maxRecDepth 100000 in
theorem ml_X7_41 : Cond.methodLink RX7 41 yX7_lowestBits ∈ WSA := wa 793 rfl rfl
set_option maxRecDepth 100000 in
theorem ml_X8_1 : Cond.methodLink RX8 1 Lib.objectInit ∈ WSA := wa 144 rfl rfl
set_option maxRecDepth 100000 in
theorem ml_X8_17 : Cond.methodLink RX8 17 yX2_isLeftBy ∈ WSA := wa 476 rfl rfl
set_option maxRecDepth 100000 in
theorem ml_X8_23 : Cond.methodLink RX8 23 yX8_add ∈ WSA := wa 480 rfl rfl
set_option maxRecDepth 100000 in
theorem ml_L_9 : Cond.methodLink "TwoLetterFormsLaw" 9 yX9_init ∈ WSA := wa 18 rfl rfl
set_option maxRecDepth 100000 in
theorem ml_L_12 : Cond.methodLink "TwoLetterFormsLaw" 12 yX10_init ∈ WSA := wa 812 rfl rfl
set_option maxRecDepth 100000 in
theorem ml_L_13 : Cond.methodLink "TwoLetterFormsLaw" 13 yX9_degree ∈ WSA := wa 256 rfl rfl
set_option maxRecDepth 100000 in
theorem ml_L_17 : Cond.methodLink "TwoLetterFormsLaw" 17 yX10_degree ∈ WSA := wa 935 rfl rfl
set_option maxRecDepth 100000 in
theorem ml_L_18 : Cond.methodLink "TwoLetterFormsLaw" 18 yX9_number ∈ WSA := wa 270 rfl rfl
set_option maxRecDepth 100000 in
theorem ml_L_22 : Cond.methodLink "TwoLetterFormsLaw" 22 yX10_number ∈ WSA := wa 944 rfl rfl
set_option maxRecDepth 100000 in
theorem ml_L_23 : Cond.methodLink "TwoLetterFormsLaw" 23 yX9_equal ∈ WSA := wa 287 rfl rfl
set_option maxRecDepth 100000 in
theorem ml_L_26 : Cond.methodLink "TwoLetterFormsLaw" 26 yX10_equal ∈ WSA := wa 954 rfl rfl
set_option maxRecDepth 100000 in
theorem ml_L_27 : Cond.methodLink "TwoLetterFormsLaw" 27 yX9_window ∈ WSA := wa 291 rfl rfl
set_option maxRecDepth 100000 in
theorem ml_L_30 : Cond.methodLink "TwoLetterFormsLaw" 30 yX10_window ∈ WSA := wa 960 rfl rfl
set_option maxRecDepth 100000 in
theorem ml_L_31 : Cond.methodLink "TwoLetterFormsLaw" 31 yX9_move ∈ WSA := wa 295 rfl rfl
set_option maxRecDepth 100000 in
theorem ml_L_34 : Cond.methodLink "TwoLetterFormsLaw" 34 yX10_move ∈ WSA := wa 965 rfl rfl
set_option maxRecDepth 100000 in
theorem ml_L_35 : Cond.methodLink "TwoLetterFormsLaw" 35 yX9_turn ∈ WSA := wa 325 rfl rfl
set_option maxRecDepth 100000 in
theorem ml_L_39 : Cond.methodLink "TwoLetterFormsLaw" 39 yX10_turn ∈ WSA := wa 986 rfl rfl
set_option maxRecDepth 100000 in
theorem ml_L_40 : Cond.methodLink "TwoLetterFormsLaw" 40 yX9_feed ∈ WSA := wa 333 rfl rfl
set_option maxRecDepth 100000 in
theorem ml_L_43 : Cond.methodLink "TwoLetterFormsLaw" 43 yX10_feed ∈ WSA := wa 1106 rfl rfl
set_option maxRecDepth 100000 in
theorem ml_L_44 : Cond.methodLink "TwoLetterFormsLaw" 44 yX9_read ∈ WSA := wa 341 rfl rfl
set_option maxRecDepth 100000 in
theorem ml_L_48 : Cond.methodLink "TwoLetterFormsLaw" 48 yX10_read ∈ WSA := wa 1111 rfl rfl
set_option maxRecDepth 100000 in
theorem ml_L_49 : Cond.methodLink "TwoLetterFormsLaw" 49 yX9_of ∈ WSA := wa 411 rfl rfl
set_option maxRecDepth 100000 in
theorem ml_L_52 : Cond.methodLink "TwoLetterFormsLaw" 52 yX10_of ∈ WSA := wa 1055 rfl rfl
set_option maxRecDepth 100000 in
theorem ml_L_53 : Cond.methodLink "TwoLetterFormsLaw" 53 yX9_told ∈ WSA := wa 415 rfl rfl
set_option maxRecDepth 100000 in
theorem ml_L_56 : Cond.methodLink "TwoLetterFormsLaw" 56 yX10_told ∈ WSA := wa 1059 rfl rfl
set_option maxRecDepth 100000 in
theorem ml_L_57 : Cond.methodLink "TwoLetterFormsLaw" 57 yX9_value ∈ WSA := wa 563 rfl rfl
set_option maxRecDepth 100000 in
theorem ml_L_61 : Cond.methodLink "TwoLetterFormsLaw" 61 yX10_value ∈ WSA := wa 1087 rfl rfl
set_option maxRecDepth 100000 in
theorem ml_L_62 : Cond.methodLink "TwoLetterFormsLaw" 62 yX9_answer ∈ WSA := wa 569 rfl rfl
set_option maxRecDepth 100000 in
theorem ml_L_65 : Cond.methodLink "TwoLetterFormsLaw" 65 yX10_answer ∈ WSA := wa 1093 rfl rfl
set_option maxRecDepth 100000 in
theorem ml_L_66 : Cond.methodLink "TwoLetterFormsLaw" 66 yX9_prime ∈ WSA := wa 580 rfl rfl
set_option maxRecDepth 100000 in
theorem ml_L_69 : Cond.methodLink "TwoLetterFormsLaw" 69 yX10_prime ∈ WSA := wa 992 rfl rfl
set_option maxRecDepth 100000 in
theorem ml_L_70 : Cond.methodLink "TwoLetterFormsLaw" 70 yX9_reason ∈ WSA := wa 611 rfl rfl
set_option maxRecDepth 100000 in
theorem ml_L_73 : Cond.methodLink "TwoLetterFormsLaw" 73 yX10_reason ∈ WSA := wa 1012 rfl rfl
set_option maxRecDepth 100000 in
theorem ml_L_74 : Cond.methodLink "TwoLetterFormsLaw" 74 yX9_unit ∈ WSA := wa 621 rfl rfl
set_option maxRecDepth 100000 in
theorem ml_L_77 : Cond.methodLink "TwoLetterFormsLaw" 77 yX10_unit ∈ WSA := wa 1097 rfl rfl
set_option maxRecDepth 100000 in
theorem ml_L_78 : Cond.methodLink "TwoLetterFormsLaw" 78 yX9_family ∈ WSA := wa 626 rfl rfl
set_option maxRecDepth 100000 in
theorem ml_L_81 : Cond.methodLink "TwoLetterFormsLaw" 81 yX10_family ∈ WSA := wa 1102 rfl rfl
set_option maxRecDepth 100000 in
theorem ml_L_82 : Cond.methodLink "TwoLetterFormsLaw" 82 yX9_part ∈ WSA := wa 634 rfl rfl
set_option maxRecDepth 100000 in
theorem ml_L_85 : Cond.methodLink "TwoLetterFormsLaw" 85 yX10_part ∈ WSA := wa 1024 rfl rfl
set_option maxRecDepth 100000 in
theorem ml_L_86 : Cond.methodLink "TwoLetterFormsLaw" 86 yX9_convergent ∈ WSA := wa 642 rfl rfl
set_option maxRecDepth 100000 in
theorem ml_L_89 : Cond.methodLink "TwoLetterFormsLaw" 89 yX10_convergent ∈ WSA := wa 1046 rfl rfl
set_option maxRecDepth 100000 in
theorem ml_L_90 : Cond.methodLink "TwoLetterFormsLaw" 90 yX9_see ∈ WSA := wa 646 rfl rfl
set_option maxRecDepth 100000 in
theorem ml_L_94 : Cond.methodLink "TwoLetterFormsLaw" 94 yX10_see ∈ WSA := wa 1146 rfl rfl
set_option maxRecDepth 100000 in
theorem ml_L_95 : Cond.methodLink "TwoLetterFormsLaw" 95 yX9_fits ∈ WSA := wa 652 rfl rfl
set_option maxRecDepth 100000 in
theorem ml_L_98 : Cond.methodLink "TwoLetterFormsLaw" 98 yX10_fits ∈ WSA := wa 1150 rfl rfl
set_option maxRecDepth 100000 in
theorem ml_L_99 : Cond.methodLink "TwoLetterFormsLaw" 99 yX9_odds ∈ WSA := wa 661 rfl rfl
set_option maxRecDepth 100000 in
theorem ml_L_103 : Cond.methodLink "TwoLetterFormsLaw" 103 yX10_odds ∈ WSA := wa 1154 rfl rfl
set_option maxRecDepth 100000 in
theorem ml_L_104 : Cond.methodLink "TwoLetterFormsLaw" 104 yX9_mean ∈ WSA := wa 683 rfl rfl
set_option maxRecDepth 100000 in
theorem ml_L_107 : Cond.methodLink "TwoLetterFormsLaw" 107 yX10_mean ∈ WSA := wa 1161 rfl rfl
set_option maxRecDepth 100000 in
theorem ml_L_108 : Cond.methodLink "TwoLetterFormsLaw" 108 yX9_event ∈ WSA := wa 691 rfl rfl
set_option maxRecDepth 100000 in
theorem ml_L_111 : Cond.methodLink "TwoLetterFormsLaw" 111 yX10_event ∈ WSA := wa 1165 rfl rfl
set_option maxRecDepth 100000 in
theorem ml_L_112 : Cond.methodLink "TwoLetterFormsLaw" 112 yX9_after ∈ WSA := wa 695 rfl rfl
set_option maxRecDepth 100000 in
theorem ml_L_115 : Cond.methodLink "TwoLetterFormsLaw" 115 yX10_after ∈ WSA := wa 1169 rfl rfl
set_option maxRecDepth 100000 in
theorem ml_L_116 : Cond.methodLink "TwoLetterFormsLaw" 116 yX9_book ∈ WSA := wa 722 rfl rfl
set_option maxRecDepth 100000 in
theorem ml_L_119 : Cond.methodLink "TwoLetterFormsLaw" 119 yX10_book ∈ WSA := wa 1181 rfl rfl
set_option maxRecDepth 100000 in
theorem ml_L_120 : Cond.methodLink "TwoLetterFormsLaw" 120 yX9_looked ∈ WSA := wa 726 rfl rfl
set_option maxRecDepth 100000 in
theorem ml_L_123 : Cond.methodLink "TwoLetterFormsLaw" 123 yX10_looked ∈ WSA := wa 1185 rfl rfl
set_option maxRecDepth 100000 in
theorem ml_L_124 : Cond.methodLink "TwoLetterFormsLaw" 124 yX9_judge ∈ WSA := wa 730 rfl rfl
set_option maxRecDepth 100000 in
theorem ml_L_127 : Cond.methodLink "TwoLetterFormsLaw" 127 yX10_judge ∈ WSA := wa 1189 rfl rfl
set_option maxRecDepth 100000 in
theorem ml_L_128 : Cond.methodLink "TwoLetterFormsLaw" 128 yX9_image ∈ WSA := wa 751 rfl rfl
set_option maxRecDepth 100000 in
theorem ml_L_131 : Cond.methodLink "TwoLetterFormsLaw" 131 yX10_image ∈ WSA := wa 1196 rfl rfl
set_option maxRecDepth 100000 in
theorem ml_L_132 : Cond.methodLink "TwoLetterFormsLaw" 132 yX9_undo ∈ WSA := wa 766 rfl rfl
set_option maxRecDepth 100000 in
theorem ml_L_135 : Cond.methodLink "TwoLetterFormsLaw" 135 yX10_undo ∈ WSA := wa 1208 rfl rfl
set_option maxRecDepth 100000 in
theorem ml_L_136 : Cond.methodLink "TwoLetterFormsLaw" 136 yX9_count ∈ WSA := wa 770 rfl rfl
set_option maxRecDepth 100000 in
theorem ml_L_139 : Cond.methodLink "TwoLetterFormsLaw" 139 yX10_count ∈ WSA := wa 1212 rfl rfl
set_option maxRecDepth 100000 in
theorem ml_L_140 : Cond.methodLink "TwoLetterFormsLaw" 140 yX9_tape ∈ WSA := wa 774 rfl rfl
set_option maxRecDepth 100000 in
theorem ml_L_143 : Cond.methodLink "TwoLetterFormsLaw" 143 yX10_tape ∈ WSA := wa 1216 rfl rfl
set_option maxRecDepth 100000 in
theorem ml_L_146 : Cond.methodLink "TwoLetterFormsLaw" 146 yX9_item ∈ WSA := wa 785 rfl rfl
set_option maxRecDepth 100000 in
theorem ml_L_150 : Cond.methodLink "TwoLetterFormsLaw" 150 yX10_item ∈ WSA := wa 1220 rfl rfl
set_option maxRecDepth 100000 in
theorem ml_L_151 : Cond.methodLink "TwoLetterFormsLaw" 151 yX9_peek ∈ WSA := wa 797 rfl rfl
set_option maxRecDepth 100000 in
theorem ml_L_154 : Cond.methodLink "TwoLetterFormsLaw" 154 yX10_peek ∈ WSA := wa 1227 rfl rfl
set_option maxRecDepth 100000 in
theorem ml_L_155 : Cond.methodLink "TwoLetterFormsLaw" 155 yX9_shift ∈ WSA := wa 801 rfl rfl
set_option maxRecDepth 100000 in
theorem ml_L_159 : Cond.methodLink "TwoLetterFormsLaw" 159 yX10_shift ∈ WSA := wa 1231 rfl rfl
set_option maxRecDepth 100000 in
theorem ml_X10_3 : Cond.methodLink RX10 3 Lib.objectInit ∈ WSA := wa 815 rfl rfl
set_option maxRecDepth 100000 in
theorem ml_X10_96 : Cond.methodLink RX10 96 yX10_in ∈ WSA := wa 941 rfl rfl
set_option maxRecDepth 100000 in
theorem ml_X10_104 : Cond.methodLink RX10 104 yX10_isNumber ∈ WSA := wa 948 rfl rfl
set_option maxRecDepth 100000 in
theorem ml_X10_118 : Cond.methodLink RX10 118 yX10_power ∈ WSA := wa 1005 rfl rfl
set_option maxRecDepth 100000 in
theorem ml_X10_122 : Cond.methodLink RX10 122 yX10_multiplies ∈ WSA := wa 977 rfl rfl
set_option maxRecDepth 100000 in
theorem ml_X10_126 : Cond.methodLink RX10 126 yX10_turns ∈ WSA := wa 973 rfl rfl
set_option maxRecDepth 100000 in
theorem ml_X10_132 : Cond.methodLink RX10 132 yX10_becomesTurned ∈ WSA := wa 982 rfl rfl
set_option maxRecDepth 100000 in
theorem ml_X10_136 : Cond.methodLink RX10 136 yX10_moves ∈ WSA := wa 969 rfl rfl
set_option maxRecDepth 100000 in
theorem ml_X10_146 : Cond.methodLink RX10 146 yX10_valueAt ∈ WSA := wa 1001 rfl rfl
set_option maxRecDepth 100000 in
theorem ml_X10_153 : Cond.methodLink RX10 153 yX10_leastOf ∈ WSA := wa 1079 rfl rfl
set_option maxRecDepth 100000 in
theorem ml_X10_157 : Cond.methodLink RX10 157 yX10_tellsAnswers ∈ WSA := wa 1016 rfl rfl
set_option maxRecDepth 100000 in
theorem ml_X10_160 : Cond.methodLink RX10 160 yX10_tellsUnits ∈ WSA := wa 1063 rfl rfl
set_option maxRecDepth 100000 in
theorem ml_X10_163 : Cond.methodLink RX10 163 yX10_cell ∈ WSA := wa 1071 rfl rfl
set_option maxRecDepth 100000 in
theorem ml_X10_167 : Cond.methodLink RX10 167 yX10_links ∈ WSA := wa 1075 rfl rfl
set_option maxRecDepth 100000 in
theorem ml_X10_174 : Cond.methodLink RX10 174 yX10_remainders ∈ WSA := wa 997 rfl rfl
set_option maxRecDepth 100000 in
theorem ml_X10_177 : Cond.methodLink RX10 177 yX10_bars ∈ WSA := wa 1008 rfl rfl
set_option maxRecDepth 100000 in
theorem ml_X10_182 : Cond.methodLink RX10 182 yX10_firstBar ∈ WSA := wa 1020 rfl rfl
set_option maxRecDepth 100000 in
theorem ml_X10_186 : Cond.methodLink RX10 186 yX10_rowAt ∈ WSA := wa 1036 rfl rfl
set_option maxRecDepth 100000 in
theorem ml_X10_197 : Cond.methodLink RX10 197 yX10_greatest ∈ WSA := wa 1032 rfl rfl
set_option maxRecDepth 100000 in
theorem ml_X10_200 : Cond.methodLink RX10 200 yX10_goesOn ∈ WSA := wa 1040 rfl rfl
set_option maxRecDepth 100000 in
theorem ml_X10_210 : Cond.methodLink RX10 210 yX10_tellsParts ∈ WSA := wa 1028 rfl rfl
set_option maxRecDepth 100000 in
theorem ml_X10_215 : Cond.methodLink RX10 215 yX10_tellsConvergent ∈ WSA := wa 1051 rfl rfl
set_option maxRecDepth 100000 in
theorem ml_X10_219 : Cond.methodLink RX10 219 yX10_tellsFamilies ∈ WSA := wa 1067 rfl rfl
set_option maxRecDepth 100000 in
theorem ml_X10_222 : Cond.methodLink RX10 222 yX10_answering ∈ WSA := wa 1083 rfl rfl
set_option maxRecDepth 100000 in
theorem ml_X10_239 : Cond.methodLink RX10 239 yX10_here ∈ WSA := wa 1119 rfl rfl
set_option maxRecDepth 100000 in
theorem ml_X10_246 : Cond.methodLink RX10 246 yX10_isDigit ∈ WSA := wa 1127 rfl rfl
set_option maxRecDepth 100000 in
theorem ml_X10_249 : Cond.methodLink RX10 249 yX10_readsDigit ∈ WSA := wa 1123 rfl rfl
set_option maxRecDepth 100000 in
theorem ml_X10_252 : Cond.methodLink RX10 252 yX10_readsNumber ∈ WSA := wa 1133 rfl rfl
set_option maxRecDepth 100000 in
theorem ml_X10_255 : Cond.methodLink RX10 255 yX10_degree ∈ WSA := wa 1141 rfl rfl
set_option maxRecDepth 100000 in
theorem ml_X10_258 : Cond.methodLink RX10 258 yX10_number ∈ WSA := wa 1142 rfl rfl
set_option maxRecDepth 100000 in
theorem ml_X10_261 : Cond.methodLink RX10 261 yX10_equal ∈ WSA := wa 1143 rfl rfl
set_option maxRecDepth 100000 in
theorem ml_X10_264 : Cond.methodLink RX10 264 yX10_window ∈ WSA := wa 1144 rfl rfl
set_option maxRecDepth 100000 in
theorem ml_X10_267 : Cond.methodLink RX10 267 yX10_move ∈ WSA := wa 1145 rfl rfl
set_option maxRecDepth 100000 in
theorem ml_X10_270 : Cond.methodLink RX10 270 yX10_readsClause ∈ WSA := wa 1115 rfl rfl
set_option maxRecDepth 100000 in
theorem ml_X10_273 : Cond.methodLink RX10 273 yX10_does ∈ WSA := wa 1137 rfl rfl
set_option maxRecDepth 100000 in
theorem ml_X10_279 : Cond.methodLink RX10 279 yX10_lowest ∈ WSA := wa 1158 rfl rfl
set_option maxRecDepth 100000 in
theorem ml_X10_286 : Cond.methodLink RX10 286 yJ9_min_f86c9 ∈ WSA := wa 1177 rfl rfl
set_option maxRecDepth 100000 in
theorem ml_X10_291 : Cond.methodLink RX10 291 yX10_happens ∈ WSA := wa 1173 rfl rfl
set_option maxRecDepth 100000 in
theorem ml_X10_294 : Cond.methodLink RX10 294 yX10_told ∈ WSA := wa 1180 rfl rfl
set_option maxRecDepth 100000 in
theorem ml_X10_299 : Cond.methodLink RX10 299 yX10_isTape ∈ WSA := wa 1193 rfl rfl
set_option maxRecDepth 100000 in
theorem ml_X10_302 : Cond.methodLink RX10 302 yX10_laysRow ∈ WSA := wa 1204 rfl rfl
set_option maxRecDepth 100000 in
theorem ml_X10_310 : Cond.methodLink RX10 310 yX10_lays ∈ WSA := wa 1200 rfl rfl
set_option maxRecDepth 100000 in
theorem ml_X10_314 : Cond.methodLink RX10 314 yX10_held ∈ WSA := wa 1224 rfl rfl
set_option maxRecDepth 100000 in
theorem ml_X10_318 : Cond.methodLink RX10 318 yX10_areThere ∈ WSA := wa 1235 rfl rfl
set_option maxRecDepth 100000 in
theorem ml_J9_146 : Cond.methodLink RJ9 146 yJ9_floorMod_f86c9 ∈ WSA := wa 594 rfl rfl
set_option maxRecDepth 100000 in
theorem kc_X9_163 : Jvm.Cond.constantLong RX9 163 (-9223372036854775808) ∈ WSA := wa 567 rfl rfl
set_option maxRecDepth 100000 in
theorem kc_X1_41 : Jvm.Cond.constantLong RX1 41 (2) ∈ WSA := wa 673 rfl rfl
set_option maxRecDepth 100000 in
theorem kc_X2_78 : Jvm.Cond.constantLong RX2 78 (99) ∈ WSA := wa 323 rfl rfl
set_option maxRecDepth 100000 in
theorem kc_X2_80 : Jvm.Cond.constantLong RX2 80 (-99) ∈ WSA := wa 324 rfl rfl
set_option maxRecDepth 100000 in
theorem kc_X3_57 : Jvm.Cond.constantLong RX3 57 (1000000000) ∈ WSA := wa 548 rfl rfl
set_option maxRecDepth 100000 in
theorem kc_X3_59 : Jvm.Cond.constantLong RX3 59 (-1000000000) ∈ WSA := wa 549 rfl rfl
set_option maxRecDepth 100000 in
theorem kc_L_144 : Jvm.Cond.constantLong RL 144 (4294967295) ∈ WSA := wa 1239 rfl rfl
set_option maxRecDepth 100000 in
theorem kc_X10_100 : Jvm.Cond.constantLong RX10 100 (2) ∈ WSA := wa 939 rfl rfl
set_option maxRecDepth 100000 in
theorem kc_X10_102 : Jvm.Cond.constantLong RX10 102 (4) ∈ WSA := wa 940 rfl rfl
set_option maxRecDepth 100000 in
theorem kc_X10_108 : Jvm.Cond.constantLong RX10 108 (-99) ∈ WSA := wa 952 rfl rfl
set_option maxRecDepth 100000 in
theorem kc_X10_110 : Jvm.Cond.constantLong RX10 110 (99) ∈ WSA := wa 953 rfl rfl
set_option maxRecDepth 100000 in
theorem kc_X10_112 : Jvm.Cond.constantLong RX10 112 (-9999) ∈ WSA := wa 958 rfl rfl
set_option maxRecDepth 100000 in
theorem kc_X10_114 : Jvm.Cond.constantLong RX10 114 (9999) ∈ WSA := wa 959 rfl rfl
set_option maxRecDepth 100000 in
theorem kc_X10_116 : Jvm.Cond.constantLong RX10 116 (40) ∈ WSA := wa 964 rfl rfl
set_option maxRecDepth 100000 in
theorem kc_X10_130 : Jvm.Cond.constantLong RX10 130 (-1) ∈ WSA := wa 981 rfl rfl
set_option maxRecDepth 100000 in
theorem kc_X10_139 : Jvm.Cond.constantLong RX10 139 (-9) ∈ WSA := wa 990 rfl rfl
set_option maxRecDepth 100000 in
theorem kc_X10_141 : Jvm.Cond.constantLong RX10 141 (9) ∈ WSA := wa 991 rfl rfl
set_option maxRecDepth 100000 in
theorem kc_X10_180 : Jvm.Cond.constantLong RX10 180 (5) ∈ WSA := wa 996 rfl rfl
set_option maxRecDepth 100000 in
theorem kc_X10_190 : Jvm.Cond.constantLong RX10 190 (-1000000000) ∈ WSA := wa 1044 rfl rfl
set_option maxRecDepth 100000 in
theorem kc_X10_192 : Jvm.Cond.constantLong RX10 192 (1000000000) ∈ WSA := wa 1045 rfl rfl
set_option maxRecDepth 100000 in
theorem kc_X10_213 : Jvm.Cond.constantLong RX10 213 (-9223372036854775808) ∈ WSA := wa 1050 rfl rfl
set_option maxRecDepth 100000 in
theorem kc_X10_225 : Jvm.Cond.constantLong RX10 225 (-999) ∈ WSA := wa 1091 rfl rfl
set_option maxRecDepth 100000 in
theorem kc_X10_227 : Jvm.Cond.constantLong RX10 227 (999) ∈ WSA := wa 1092 rfl rfl
set_option maxRecDepth 100000 in
theorem kc_X10_229 : Jvm.Cond.constantLong RX10 229 (3) ∈ WSA := wa 1101 rfl rfl
set_option maxRecDepth 100000 in
theorem kc_X10_231 : Jvm.Cond.constantLong RX10 231 (127) ∈ WSA := wa 1110 rfl rfl
set_option maxRecDepth 100000 in
theorem kc_X10_242 : Jvm.Cond.constantLong RX10 242 (48) ∈ WSA := wa 1131 rfl rfl
set_option maxRecDepth 100000 in
theorem kc_X10_244 : Jvm.Cond.constantLong RX10 244 (57) ∈ WSA := wa 1132 rfl rfl
set_option maxRecDepth 100000 in
theorem kc_J6_265 : Jvm.Cond.constant RJ6 265 (1431655765) ∈ WSA := wa 600 rfl rfl
set_option maxRecDepth 100000 in
theorem kc_J6_266 : Jvm.Cond.constant RJ6 266 (858993459) ∈ WSA := wa 601 rfl rfl
set_option maxRecDepth 100000 in
theorem kc_J6_267 : Jvm.Cond.constant RJ6 267 (252645135) ∈ WSA := wa 602 rfl rfl
set_option maxRecDepth 100000 in
theorem lk_X9_9 : Cond.classLink RX9 9 RX6 ∈ WSA := wa 24 rfl rfl
set_option maxRecDepth 100000 in
theorem lk_X9_25 : Cond.classLink RX9 25 RX1 ∈ WSA := wa 108 rfl rfl
set_option maxRecDepth 100000 in
theorem lk_X9_32 : Cond.classLink RX9 32 RX0 ∈ WSA := wa 110 rfl rfl
set_option maxRecDepth 100000 in
theorem lk_X9_39 : Cond.classLink RX9 39 RX8 ∈ WSA := wa 139 rfl rfl
set_option maxRecDepth 100000 in
theorem lk_X9_46 : Cond.classLink RX9 46 RX3 ∈ WSA := wa 154 rfl rfl
set_option maxRecDepth 100000 in
theorem lk_X9_53 : Cond.classLink RX9 53 RX5 ∈ WSA := wa 180 rfl rfl
set_option maxRecDepth 100000 in
theorem lk_X9_60 : Cond.classLink RX9 60 RX7 ∈ WSA := wa 209 rfl rfl
set_option maxRecDepth 100000 in
theorem lk_X0_25 : Cond.classLink RX0 25 RX1 ∈ WSA := wa 116 rfl rfl
set_option maxRecDepth 100000 in
theorem lk_X1_9 : Cond.classLink RX1 9 RX2 ∈ WSA := wa 36 rfl rfl
set_option maxRecDepth 100000 in
theorem lk_X5_13 : Cond.classLink RX5 13 RX4 ∈ WSA := wa 186 rfl rfl
set_option maxRecDepth 100000 in
theorem lk_X6_9 : Cond.classLink RX6 9 RX1 ∈ WSA := wa 30 rfl rfl
set_option maxRecDepth 100000 in
theorem lk_X6_18 : Cond.classLink RX6 18 RX4 ∈ WSA := wa 74 rfl rfl
set_option maxRecDepth 100000 in
theorem lk_L_7 : Cond.classLink "TwoLetterFormsLaw" 7 RX9 ∈ WSA := wa 16 rfl rfl
set_option maxRecDepth 100000 in
theorem lk_L_10 : Cond.classLink "TwoLetterFormsLaw" 10 RX10 ∈ WSA := wa 810 rfl rfl
set_option maxRecDepth 100000 in
theorem in_9 : Cond.instantiable RX9 9 ∈ WSA := wa 17 rfl rfl
set_option maxRecDepth 100000 in
theorem it_9 : Cond.initialized RX9 ∈ WSA := wa 1 rfl rfl
set_option maxRecDepth 100000 in
theorem in_0 : Cond.instantiable RX0 6 ∈ WSA := wa 111 rfl rfl
set_option maxRecDepth 100000 in
theorem it_0 : Cond.initialized RX0 ∈ WSA := wa 7 rfl rfl
set_option maxRecDepth 100000 in
theorem in_1 : Cond.instantiable RX1 3 ∈ WSA := wa 31 rfl rfl
set_option maxRecDepth 100000 in
theorem it_1 : Cond.initialized RX1 ∈ WSA := wa 3 rfl rfl
set_option maxRecDepth 100000 in
theorem in_2 : Cond.instantiable RX2 4 ∈ WSA := wa 37 rfl rfl
set_option maxRecDepth 100000 in
theorem it_2 : Cond.initialized RX2 ∈ WSA := wa 4 rfl rfl
set_option maxRecDepth 100000 in
theorem in_3 : Cond.instantiable RX3 6 ∈ WSA := wa 155 rfl rfl
set_option maxRecDepth 100000 in
theorem it_3 : Cond.initialized RX3 ∈ WSA := wa 9 rfl rfl
set_option maxRecDepth 100000 in
theorem in_4 : Cond.instantiable RX4 2 ∈ WSA := wa 75 rfl rfl
set_option maxRecDepth 100000 in
theorem it_4 : Cond.initialized RX4 ∈ WSA := wa 5 rfl rfl
set_option maxRecDepth 100000 in
theorem in_5 : Cond.instantiable RX5 6 ∈ WSA := wa 181 rfl rfl
set_option maxRecDepth 100000 in
theorem it_5 : Cond.initialized RX5 ∈ WSA := wa 10 rfl rfl
set_option maxRecDepth 100000 in
theorem in_6 : Cond.instantiable RX6 4 ∈ WSA := wa 25 rfl rfl
set_option maxRecDepth 100000 in
theorem it_6 : Cond.initialized RX6 ∈ WSA := wa 2 rfl rfl
set_option maxRecDepth 100000 in
theorem in_7 : Cond.instantiable RX7 3 ∈ WSA := wa 211 rfl rfl
set_option maxRecDepth 100000 in
theorem it_7 : Cond.initialized RX7 ∈ WSA := wa 11 rfl rfl
set_option maxRecDepth 100000 in
theorem in_8 : Cond.instantiable RX8 2 ∈ WSA := wa 140 rfl rfl
set_option maxRecDepth 100000 in
theorem it_8 : Cond.initialized RX8 ∈ WSA := wa 8 rfl rfl
set_option maxRecDepth 100000 in
theorem in_10 : Cond.instantiable RX10 39 ∈ WSA := wa 811 rfl rfl
set_option maxRecDepth 100000 in
theorem it_10 : Cond.initialized RX10 ∈ WSA := wa 12 rfl rfl
set_option maxRecDepth 100000 in
theorem ac_I : Cond.arrayClass .int ∈ WSA := wa 57 rfl rfl
set_option maxRecDepth 100000 in
theorem ac_J : Cond.arrayClass .long ∈ WSA := wa 58 rfl rfl
set_option maxRecDepth 100000 in
theorem ac_Z : Cond.arrayClass .boolean ∈ WSA := wa 934 rfl rfl
set_option maxRecDepth 100000 in
theorem oi_1 : Cond.instanceMethod Lib.objectInit ∈ WSA := wa 22 rfl rfl
set_option maxRecDepth 100000 in
theorem oi_2 : Cond.code Lib.objectInit ⟨#[0xb1]⟩ 1 none ∈ WSA := wa 23 rfl rfl
set_option maxRecDepth 100000 in
theorem ac_1 : Cond.native arraycopyName ∈ WSA := wa 445 rfl rfl
set_option maxRecDepth 100000 in
theorem ac_2 : Cond.static arraycopyName ∈ WSA := wa 444 rfl rfl
set_option maxRecDepth 100000 in
theorem ac_3 : Cond.initialized "java/lang/System" ∈ WSA := wa 14 rfl rfl
set_option maxRecDepth 100000 in
theorem cal_X2_init : CalI yX2_init cX2_init 1 0 := ⟨⟨wa 39 rfl rfl, wa 4 rfl rfl, wa 40 rfl rfl, rfl⟩, ⟨by decide +kernel, by decide +kernel, by decide +kernel⟩⟩
set_option maxRecDepth 100000 in
theorem cal_X1_init : CalI yX1_init cX1_init 1 0 := ⟨⟨wa 33 rfl rfl, wa 3 rfl rfl, wa 34 rfl rfl, rfl⟩, ⟨by decide +kernel, by decide +kernel, by decide +kernel⟩⟩
set_option maxRecDepth 100000 in
theorem cal_J9_max_7cf53 : CalS yJ9_max_7cf53 cJ9_max_7cf53 2 (some (.int)) 2 := ⟨⟨wa 81 rfl rfl, wa 6 rfl rfl, wa 82 rfl rfl⟩, ⟨by decide +kernel, by decide +kernel, by decide +kernel⟩⟩
set_option maxRecDepth 100000 in
theorem cal_X4_init : CalI yX4_init cX4_init 2 1 := ⟨⟨wa 77 rfl rfl, wa 5 rfl rfl, wa 78 rfl rfl, rfl⟩, ⟨by decide +kernel, by decide +kernel, by decide +kernel⟩⟩
set_option maxRecDepth 100000 in
theorem cal_X6_init : CalI yX6_init cX6_init 1 0 := ⟨⟨wa 27 rfl rfl, wa 2 rfl rfl, wa 28 rfl rfl, rfl⟩, ⟨by decide +kernel, by decide +kernel, by decide +kernel⟩⟩
set_option maxRecDepth 100000 in
theorem cal_X0_init : CalI yX0_init cX0_init 1 0 := ⟨⟨wa 113 rfl rfl, wa 7 rfl rfl, wa 114 rfl rfl, rfl⟩, ⟨by decide +kernel, by decide +kernel, by decide +kernel⟩⟩
set_option maxRecDepth 100000 in
theorem cal_X8_init : CalI yX8_init cX8_init 1 0 := ⟨⟨wa 142 rfl rfl, wa 8 rfl rfl, wa 143 rfl rfl, rfl⟩, ⟨by decide +kernel, by decide +kernel, by decide +kernel⟩⟩
set_option maxRecDepth 100000 in
theorem cal_X3_init : CalI yX3_init cX3_init 1 0 := ⟨⟨wa 157 rfl rfl, wa 9 rfl rfl, wa 158 rfl rfl, rfl⟩, ⟨by decide +kernel, by decide +kernel, by decide +kernel⟩⟩
set_option maxRecDepth 100000 in
theorem cal_X5_init : CalI yX5_init cX5_init 1 0 := ⟨⟨wa 183 rfl rfl, wa 10 rfl rfl, wa 184 rfl rfl, rfl⟩, ⟨by decide +kernel, by decide +kernel, by decide +kernel⟩⟩
set_option maxRecDepth 100000 in
theorem cal_X7_init : CalI yX7_init cX7_init 1 0 := ⟨⟨wa 213 rfl rfl, wa 11 rfl rfl, wa 214 rfl rfl, rfl⟩, ⟨by decide +kernel, by decide +kernel, by decide +kernel⟩⟩
set_option maxRecDepth 100000 in
theorem cal_X9_init : CalI yX9_init cX9_init 2 0 := ⟨⟨wa 19 rfl rfl, wa 1 rfl rfl, wa 20 rfl rfl, rfl⟩, ⟨by decide +kernel, by decide +kernel, by decide +kernel⟩⟩
set_option maxRecDepth 100000 in
theorem cal_X10_init : CalI yX10_init cX10_init 1 0 := ⟨⟨wa 813 rfl rfl, wa 12 rfl rfl, wa 814 rfl rfl, rfl⟩, ⟨by decide +kernel, by decide +kernel, by decide +kernel⟩⟩
set_option maxRecDepth 100000 in
theorem cal_X9_between : CalS yX9_between cX9_between 3 (some (.boolean)) 3 := ⟨⟨wa 261 rfl rfl, wa 1 rfl rfl, wa 262 rfl rfl⟩, ⟨by decide +kernel, by decide +kernel, by decide +kernel⟩⟩
set_option maxRecDepth 100000 in
theorem cal_J7_fill_53178 : CalS yJ7_fill_53178 cJ7_fill_53178 4 none 2 := ⟨⟨wa 268 rfl rfl, wa 13 rfl rfl, wa 269 rfl rfl⟩, ⟨by decide +kernel, by decide +kernel, by decide +kernel⟩⟩
set_option maxRecDepth 100000 in
theorem cal_X2_clear : CalV yX2_clear cX2_clear 2 none 1 := ⟨⟨wa 264 rfl rfl, wa 265 rfl rfl, wa 4 rfl rfl, wa 266 rfl rfl⟩, ⟨by decide +kernel, by decide +kernel, by decide +kernel⟩⟩
set_option maxRecDepth 100000 in
theorem cal_X9_degree : CalV yX9_degree cX9_degree 3 (some (.int)) 1 := ⟨⟨wa 257 rfl rfl, wa 258 rfl rfl, wa 1 rfl rfl, wa 259 rfl rfl⟩, ⟨by decide +kernel, by decide +kernel, by decide +kernel⟩⟩
set_option maxRecDepth 100000 in
theorem cal_X10_in : CalS yX10_in cX10_in 6 (some (.boolean)) 3 := ⟨⟨wa 942 rfl rfl, wa 12 rfl rfl, wa 943 rfl rfl⟩, ⟨by decide +kernel, by decide +kernel, by decide +kernel⟩⟩
set_option maxRecDepth 100000 in
theorem cal_X10_degree : CalV yX10_degree cX10_degree 4 (some (.int)) 1 := ⟨⟨wa 936 rfl rfl, wa 937 rfl rfl, wa 12 rfl rfl, wa 938 rfl rfl⟩, ⟨by decide +kernel, by decide +kernel, by decide +kernel⟩⟩
set_option maxRecDepth 100000 in
theorem cal_X2_has : CalV yX2_has cX2_has 2 (some (.boolean)) 1 := ⟨⟨wa 275 rfl rfl, wa 276 rfl rfl, wa 4 rfl rfl, wa 277 rfl rfl⟩, ⟨by decide +kernel, by decide +kernel, by decide +kernel⟩⟩
set_option maxRecDepth 100000 in
theorem cal_X2_get : CalV yX2_get cX2_get 2 (some (.int)) 1 := ⟨⟨wa 279 rfl rfl, wa 280 rfl rfl, wa 4 rfl rfl, wa 281 rfl rfl⟩, ⟨by decide +kernel, by decide +kernel, by decide +kernel⟩⟩
set_option maxRecDepth 100000 in
theorem cal_X2_set : CalV yX2_set cX2_set 3 none 2 := ⟨⟨wa 284 rfl rfl, wa 285 rfl rfl, wa 4 rfl rfl, wa 286 rfl rfl⟩, ⟨by decide +kernel, by decide +kernel, by decide +kernel⟩⟩
set_option maxRecDepth 100000 in
theorem cal_X9_number : CalV yX9_number cX9_number 5 (some (.int)) 2 := ⟨⟨wa 271 rfl rfl, wa 272 rfl rfl, wa 1 rfl rfl, wa 273 rfl rfl⟩, ⟨by decide +kernel, by decide +kernel, by decide +kernel⟩⟩
set_option maxRecDepth 100000 in
theorem cal_X10_isNumber : CalV yX10_isNumber cX10_isNumber 2 (some (.boolean)) 1 := ⟨⟨wa 950 rfl rfl, wap (q := (yX10_isNumber, 39)) 28 (by decide +kernel) (by decide +kernel), wa 12 rfl rfl, wa 951 rfl rfl⟩, ⟨by decide +kernel, by decide +kernel, by decide +kernel⟩⟩
set_option maxRecDepth 100000 in
theorem cal_X10_number : CalV yX10_number cX10_number 4 (some (.int)) 2 := ⟨⟨wa 945 rfl rfl, wa 946 rfl rfl, wa 12 rfl rfl, wa 947 rfl rfl⟩, ⟨by decide +kernel, by decide +kernel, by decide +kernel⟩⟩
set_option maxRecDepth 100000 in
theorem cal_X9_equal : CalV yX9_equal cX9_equal 3 (some (.int)) 1 := ⟨⟨wa 288 rfl rfl, wa 289 rfl rfl, wa 1 rfl rfl, wa 290 rfl rfl⟩, ⟨by decide +kernel, by decide +kernel, by decide +kernel⟩⟩
set_option maxRecDepth 100000 in
theorem cal_X10_equal : CalV yX10_equal cX10_equal 3 (some (.int)) 1 := ⟨⟨wa 955 rfl rfl, wa 956 rfl rfl, wa 12 rfl rfl, wa 957 rfl rfl⟩, ⟨by decide +kernel, by decide +kernel, by decide +kernel⟩⟩
set_option maxRecDepth 100000 in
theorem cal_X9_window : CalV yX9_window cX9_window 3 (some (.int)) 1 := ⟨⟨wa 292 rfl rfl, wa 293 rfl rfl, wa 1 rfl rfl, wa 294 rfl rfl⟩, ⟨by decide +kernel, by decide +kernel, by decide +kernel⟩⟩
set_option maxRecDepth 100000 in
theorem cal_X10_window : CalV yX10_window cX10_window 3 (some (.int)) 1 := ⟨⟨wa 961 rfl rfl, wa 962 rfl rfl, wa 12 rfl rfl, wa 963 rfl rfl⟩, ⟨by decide +kernel, by decide +kernel, by decide +kernel⟩⟩
set_option maxRecDepth 100000 in
theorem cal_X2_isMove : CalS yX2_isMove cX2_isMove 1 (some (.boolean)) 1 := ⟨⟨wa 300 rfl rfl, wa 4 rfl rfl, wa 301 rfl rfl⟩, ⟨by decide +kernel, by decide +kernel, by decide +kernel⟩⟩
set_option maxRecDepth 100000 in
theorem cal_J7_fill_d0a16 : CalS yJ7_fill_d0a16 cJ7_fill_d0a16 5 none 2 := ⟨⟨wa 318 rfl rfl, wa 13 rfl rfl, wa 319 rfl rfl⟩, ⟨by decide +kernel, by decide +kernel, by decide +kernel⟩⟩
set_option maxRecDepth 100000 in
theorem cal_X2_multiply : CalS yX2_multiply cX2_multiply 4 none 3 := ⟨⟨wa 321 rfl rfl, wa 4 rfl rfl, wa 322 rfl rfl⟩, ⟨by decide +kernel, by decide +kernel, by decide +kernel⟩⟩
set_option maxRecDepth 100000 in
theorem cal_X2_findTurned : CalV yX2_findTurned cX2_findTurned 7 none 4 := ⟨⟨wa 315 rfl rfl, wap (q := (yX2_findTurned, 4)) 0 (by decide +kernel) (by decide +kernel), wa 4 rfl rfl, wa 316 rfl rfl⟩, ⟨by decide +kernel, by decide +kernel, by decide +kernel⟩⟩
set_option maxRecDepth 100000 in
theorem cal_X2_turnBy : CalV yX2_turnBy cX2_turnBy 6 (some (.boolean)) 4 := ⟨⟨wa 310 rfl rfl, wa 311 rfl rfl, wa 4 rfl rfl, wa 312 rfl rfl⟩, ⟨by decide +kernel, by decide +kernel, by decide +kernel⟩⟩
set_option maxRecDepth 100000 in
theorem cal_X2_moveBy : CalV yX2_moveBy cX2_moveBy 4 (some (.boolean)) 1 := ⟨⟨wa 303 rfl rfl, wa 304 rfl rfl, wa 4 rfl rfl, wa 305 rfl rfl⟩, ⟨by decide +kernel, by decide +kernel, by decide +kernel⟩⟩
set_option maxRecDepth 100000 in
theorem cal_X9_move : CalV yX9_move cX9_move 2 (some (.int)) 1 := ⟨⟨wa 296 rfl rfl, wa 297 rfl rfl, wa 1 rfl rfl, wa 298 rfl rfl⟩, ⟨by decide +kernel, by decide +kernel, by decide +kernel⟩⟩
set_option maxRecDepth 100000 in
theorem cal_X10_multiplies : CalV yX10_multiplies cX10_multiplies 6 none 2 := ⟨⟨wa 979 rfl rfl, wap (q := (yX10_multiplies, 39)) 31 (by decide +kernel) (by decide +kernel), wa 12 rfl rfl, wa 980 rfl rfl⟩, ⟨by decide +kernel, by decide +kernel, by decide +kernel⟩⟩
set_option maxRecDepth 100000 in
theorem cal_X10_turns : CalV yX10_turns cX10_turns 11 none 4 := ⟨⟨wa 975 rfl rfl, wap (q := (yX10_turns, 39)) 30 (by decide +kernel) (by decide +kernel), wa 12 rfl rfl, wa 976 rfl rfl⟩, ⟨by decide +kernel, by decide +kernel, by decide +kernel⟩⟩
set_option maxRecDepth 100000 in
theorem cal_X10_becomesTurned : CalV yX10_becomesTurned cX10_becomesTurned 2 (some (.boolean)) 0 := ⟨⟨wa 984 rfl rfl, wap (q := (yX10_becomesTurned, 39)) 32 (by decide +kernel) (by decide +kernel), wa 12 rfl rfl, wa 985 rfl rfl⟩, ⟨by decide +kernel, by decide +kernel, by decide +kernel⟩⟩
set_option maxRecDepth 100000 in
theorem cal_X10_moves : CalV yX10_moves cX10_moves 3 (some (.boolean)) 1 := ⟨⟨wa 971 rfl rfl, wap (q := (yX10_moves, 39)) 29 (by decide +kernel) (by decide +kernel), wa 12 rfl rfl, wa 972 rfl rfl⟩, ⟨by decide +kernel, by decide +kernel, by decide +kernel⟩⟩
set_option maxRecDepth 100000 in
theorem cal_X10_move : CalV yX10_move cX10_move 2 (some (.int)) 1 := ⟨⟨wa 966 rfl rfl, wa 967 rfl rfl, wa 12 rfl rfl, wa 968 rfl rfl⟩, ⟨by decide +kernel, by decide +kernel, by decide +kernel⟩⟩
set_option maxRecDepth 100000 in
theorem cal_X9_isTurn : CalS yX9_isTurn cX9_isTurn 1 (some (.boolean)) 1 := ⟨⟨wa 330 rfl rfl, wa 1 rfl rfl, wa 331 rfl rfl⟩, ⟨by decide +kernel, by decide +kernel, by decide +kernel⟩⟩
set_option maxRecDepth 100000 in
theorem cal_X9_turn : CalV yX9_turn cX9_turn 5 (some (.int)) 4 := ⟨⟨wa 326 rfl rfl, wa 327 rfl rfl, wa 1 rfl rfl, wa 328 rfl rfl⟩, ⟨by decide +kernel, by decide +kernel, by decide +kernel⟩⟩
set_option maxRecDepth 100000 in
theorem cal_X10_turn : CalV yX10_turn cX10_turn 5 (some (.int)) 4 := ⟨⟨wa 987 rfl rfl, wa 988 rfl rfl, wa 12 rfl rfl, wa 989 rfl rfl⟩, ⟨by decide +kernel, by decide +kernel, by decide +kernel⟩⟩
set_option maxRecDepth 100000 in
theorem cal_X5_add : CalV yX5_add cX5_add 2 (some (.boolean)) 1 := ⟨⟨wa 338 rfl rfl, wa 339 rfl rfl, wa 10 rfl rfl, wa 340 rfl rfl⟩, ⟨by decide +kernel, by decide +kernel, by decide +kernel⟩⟩
set_option maxRecDepth 100000 in
theorem cal_X9_feed : CalV yX9_feed cX9_feed 2 (some (.int)) 1 := ⟨⟨wa 334 rfl rfl, wa 335 rfl rfl, wa 1 rfl rfl, wa 336 rfl rfl⟩, ⟨by decide +kernel, by decide +kernel, by decide +kernel⟩⟩
set_option maxRecDepth 100000 in
theorem cal_X10_feed : CalV yX10_feed cX10_feed 2 (some (.int)) 1 := ⟨⟨wa 1107 rfl rfl, wa 1108 rfl rfl, wa 12 rfl rfl, wa 1109 rfl rfl⟩, ⟨by decide +kernel, by decide +kernel, by decide +kernel⟩⟩
set_option maxRecDepth 100000 in
theorem cal_X4_empty : CalV yX4_empty cX4_empty 1 (some (.int)) 0 := ⟨⟨wa 350 rfl rfl, wa 351 rfl rfl, wa 5 rfl rfl, wa 352 rfl rfl⟩, ⟨by decide +kernel, by decide +kernel, by decide +kernel⟩⟩
set_option maxRecDepth 100000 in
theorem cal_X5_next : CalV yX5_next cX5_next 1 (some (.int)) 0 := ⟨⟨wa 359 rfl rfl, wap (q := (yX5_next, 6)) 2 (by decide +kernel) (by decide +kernel), wa 10 rfl rfl, wa 360 rfl rfl⟩, ⟨by decide +kernel, by decide +kernel, by decide +kernel⟩⟩
set_option maxRecDepth 100000 in
theorem cal_X5_hasDigit : CalS yX5_hasDigit cX5_hasDigit 1 (some (.boolean)) 1 := ⟨⟨wa 365 rfl rfl, wa 10 rfl rfl, wa 366 rfl rfl⟩, ⟨by decide +kernel, by decide +kernel, by decide +kernel⟩⟩
set_option maxRecDepth 100000 in
theorem cal_X5_hasNumber : CalS yX5_hasNumber cX5_hasNumber 1 (some (.boolean)) 1 := ⟨⟨wa 368 rfl rfl, wa 10 rfl rfl, wa 369 rfl rfl⟩, ⟨by decide +kernel, by decide +kernel, by decide +kernel⟩⟩
set_option maxRecDepth 100000 in
theorem cal_X5_isKind : CalS yX5_isKind cX5_isKind 1 (some (.boolean)) 1 := ⟨⟨wa 362 rfl rfl, wa 10 rfl rfl, wa 363 rfl rfl⟩, ⟨by decide +kernel, by decide +kernel, by decide +kernel⟩⟩
set_option maxRecDepth 100000 in
theorem cal_X5_isAtDigit : CalV yX5_isAtDigit cX5_isAtDigit 1 (some (.boolean)) 0 := ⟨⟨wa 376 rfl rfl, wap (q := (yX5_isAtDigit, 6)) 4 (by decide +kernel) (by decide +kernel), wa 10 rfl rfl, wa 377 rfl rfl⟩, ⟨by decide +kernel, by decide +kernel, by decide +kernel⟩⟩
set_option maxRecDepth 100000 in
theorem cal_X5_takeDigit : CalV yX5_takeDigit cX5_takeDigit 1 (some (.boolean)) 0 := ⟨⟨wa 372 rfl rfl, wap (q := (yX5_takeDigit, 6)) 3 (by decide +kernel) (by decide +kernel), wa 10 rfl rfl, wa 373 rfl rfl⟩, ⟨by decide +kernel, by decide +kernel, by decide +kernel⟩⟩
set_option maxRecDepth 100000 in
theorem cal_X5_takeNumber : CalV yX5_takeNumber cX5_takeNumber 3 (some (.boolean)) 0 := ⟨⟨wa 380 rfl rfl, wap (q := (yX5_takeNumber, 6)) 5 (by decide +kernel) (by decide +kernel), wa 10 rfl rfl, wa 381 rfl rfl⟩, ⟨by decide +kernel, by decide +kernel, by decide +kernel⟩⟩
set_option maxRecDepth 100000 in
theorem cal_X4_add : CalV yX4_add cX4_add 5 (some (.int)) 3 := ⟨⟨wa 383 rfl rfl, wa 384 rfl rfl, wa 5 rfl rfl, wa 385 rfl rfl⟩, ⟨by decide +kernel, by decide +kernel, by decide +kernel⟩⟩
set_option maxRecDepth 100000 in
theorem cal_X5_takeClause : CalV yX5_takeClause cX5_takeClause 2 (some (.boolean)) 0 := ⟨⟨wa 355 rfl rfl, wap (q := (yX5_takeClause, 6)) 1 (by decide +kernel) (by decide +kernel), wa 10 rfl rfl, wa 356 rfl rfl⟩, ⟨by decide +kernel, by decide +kernel, by decide +kernel⟩⟩
set_option maxRecDepth 100000 in
theorem cal_X5_findFault : CalV yX5_findFault cX5_findFault 2 (some (.int)) 0 := ⟨⟨wa 346 rfl rfl, wa 347 rfl rfl, wa 10 rfl rfl, wa 348 rfl rfl⟩, ⟨by decide +kernel, by decide +kernel, by decide +kernel⟩⟩
set_option maxRecDepth 100000 in
theorem cal_X4_cell : CalV yX4_cell cX4_cell 4 (some (.int)) 2 := ⟨⟨wa 396 rfl rfl, wap (q := (yX4_cell, 2)) 7 (by decide +kernel) (by decide +kernel), wa 5 rfl rfl, wa 397 rfl rfl⟩, ⟨by decide +kernel, by decide +kernel, by decide +kernel⟩⟩
set_option maxRecDepth 100000 in
theorem cal_X4_second : CalV yX4_second cX4_second 2 (some (.int)) 1 := ⟨⟨wa 391 rfl rfl, wa 392 rfl rfl, wa 5 rfl rfl, wa 393 rfl rfl⟩, ⟨by decide +kernel, by decide +kernel, by decide +kernel⟩⟩
set_option maxRecDepth 100000 in
theorem cal_X4_third : CalV yX4_third cX4_third 2 (some (.int)) 1 := ⟨⟨wa 399 rfl rfl, wa 400 rfl rfl, wa 5 rfl rfl, wa 401 rfl rfl⟩, ⟨by decide +kernel, by decide +kernel, by decide +kernel⟩⟩
set_option maxRecDepth 100000 in
theorem cal_X4_first : CalV yX4_first cX4_first 2 (some (.int)) 1 := ⟨⟨wa 403 rfl rfl, wa 404 rfl rfl, wa 5 rfl rfl, wa 405 rfl rfl⟩, ⟨by decide +kernel, by decide +kernel, by decide +kernel⟩⟩
set_option maxRecDepth 100000 in
theorem cal_X9_clauseAnswer : CalV yX9_clauseAnswer cX9_clauseAnswer 4 (some (.int)) 1 := ⟨⟨wa 388 rfl rfl, wap (q := (yX9_clauseAnswer, 9)) 6 (by decide +kernel) (by decide +kernel), wa 1 rfl rfl, wa 389 rfl rfl⟩, ⟨by decide +kernel, by decide +kernel, by decide +kernel⟩⟩
set_option maxRecDepth 100000 in
theorem cal_X9_read : CalV yX9_read cX9_read 4 (some (.int)) 0 := ⟨⟨wa 342 rfl rfl, wa 343 rfl rfl, wa 1 rfl rfl, wa 344 rfl rfl⟩, ⟨by decide +kernel, by decide +kernel, by decide +kernel⟩⟩
set_option maxRecDepth 100000 in
theorem cal_X10_here : CalV yX10_here cX10_here 1 (some (.int)) 0 := ⟨⟨wa 1121 rfl rfl, wap (q := (yX10_here, 39)) 50 (by decide +kernel) (by decide +kernel), wa 12 rfl rfl, wa 1122 rfl rfl⟩, ⟨by decide +kernel, by decide +kernel, by decide +kernel⟩⟩
set_option maxRecDepth 100000 in
theorem cal_X10_isDigit : CalV yX10_isDigit cX10_isDigit 1 (some (.boolean)) 0 := ⟨⟨wa 1129 rfl rfl, wap (q := (yX10_isDigit, 39)) 52 (by decide +kernel) (by decide +kernel), wa 12 rfl rfl, wa 1130 rfl rfl⟩, ⟨by decide +kernel, by decide +kernel, by decide +kernel⟩⟩
set_option maxRecDepth 100000 in
theorem cal_X10_readsDigit : CalV yX10_readsDigit cX10_readsDigit 2 (some (.boolean)) 1 := ⟨⟨wa 1125 rfl rfl, wap (q := (yX10_readsDigit, 39)) 51 (by decide +kernel) (by decide +kernel), wa 12 rfl rfl, wa 1126 rfl rfl⟩, ⟨by decide +kernel, by decide +kernel, by decide +kernel⟩⟩
set_option maxRecDepth 100000 in
theorem cal_X10_readsNumber : CalV yX10_readsNumber cX10_readsNumber 5 (some (.boolean)) 1 := ⟨⟨wa 1135 rfl rfl, wap (q := (yX10_readsNumber, 39)) 53 (by decide +kernel) (by decide +kernel), wa 12 rfl rfl, wa 1136 rfl rfl⟩, ⟨by decide +kernel, by decide +kernel, by decide +kernel⟩⟩
set_option maxRecDepth 100000 in
theorem cal_X10_readsClause : CalV yX10_readsClause cX10_readsClause 3 (some (.boolean)) 1 := ⟨⟨wa 1117 rfl rfl, wap (q := (yX10_readsClause, 39)) 49 (by decide +kernel) (by decide +kernel), wa 12 rfl rfl, wa 1118 rfl rfl⟩, ⟨by decide +kernel, by decide +kernel, by decide +kernel⟩⟩
set_option maxRecDepth 100000 in
theorem cal_X10_does : CalV yX10_does cX10_does 4 (some (.int)) 1 := ⟨⟨wa 1139 rfl rfl, wap (q := (yX10_does, 39)) 54 (by decide +kernel) (by decide +kernel), wa 12 rfl rfl, wa 1140 rfl rfl⟩, ⟨by decide +kernel, by decide +kernel, by decide +kernel⟩⟩
set_option maxRecDepth 100000 in
theorem cal_X10_read : CalV yX10_read cX10_read 5 (some (.int)) 0 := ⟨⟨wa 1112 rfl rfl, wa 1113 rfl rfl, wa 12 rfl rfl, wa 1114 rfl rfl⟩, ⟨by decide +kernel, by decide +kernel, by decide +kernel⟩⟩
set_option maxRecDepth 100000 in
theorem cal_X9_of : CalV yX9_of cX9_of 3 (some (.int)) 1 := ⟨⟨wa 412 rfl rfl, wa 413 rfl rfl, wa 1 rfl rfl, wa 414 rfl rfl⟩, ⟨by decide +kernel, by decide +kernel, by decide +kernel⟩⟩
set_option maxRecDepth 100000 in
theorem cal_X10_of : CalV yX10_of cX10_of 2 (some (.int)) 1 := ⟨⟨wa 1056 rfl rfl, wa 1057 rfl rfl, wa 12 rfl rfl, wa 1058 rfl rfl⟩, ⟨by decide +kernel, by decide +kernel, by decide +kernel⟩⟩
set_option maxRecDepth 100000 in
theorem cal_X2_isLike : CalV yX2_isLike cX2_isLike 3 (some (.boolean)) 1 := ⟨⟨wa 432 rfl rfl, wa 433 rfl rfl, wa 4 rfl rfl, wa 434 rfl rfl⟩, ⟨by decide +kernel, by decide +kernel, by decide +kernel⟩⟩
set_option maxRecDepth 100000 in
theorem cal_X1_isLike : CalV yX1_isLike cX1_isLike 2 (some (.boolean)) 1 := ⟨⟨wa 428 rfl rfl, wa 429 rfl rfl, wa 3 rfl rfl, wa 430 rfl rfl⟩, ⟨by decide +kernel, by decide +kernel, by decide +kernel⟩⟩
set_option maxRecDepth 100000 in
theorem cal_X2_copy : CalV yX2_copy cX2_copy 2 none 1 := ⟨⟨wa 440 rfl rfl, wa 441 rfl rfl, wa 4 rfl rfl, wa 442 rfl rfl⟩, ⟨by decide +kernel, by decide +kernel, by decide +kernel⟩⟩
set_option maxRecDepth 100000 in
theorem cal_X1_copy : CalV yX1_copy cX1_copy 2 none 1 := ⟨⟨wa 436 rfl rfl, wa 437 rfl rfl, wa 3 rfl rfl, wa 438 rfl rfl⟩, ⟨by decide +kernel, by decide +kernel, by decide +kernel⟩⟩
set_option maxRecDepth 100000 in
theorem cal_X1_hasInWindow : CalV yX1_hasInWindow cX1_hasInWindow 5 (some (.boolean)) 2 := ⟨⟨wa 452 rfl rfl, wa 453 rfl rfl, wa 3 rfl rfl, wa 454 rfl rfl⟩, ⟨by decide +kernel, by decide +kernel, by decide +kernel⟩⟩
set_option maxRecDepth 100000 in
theorem cal_X2_at : CalV yX2_at cX2_at 10 (some (.long)) 2 := ⟨⟨wa 456 rfl rfl, wa 457 rfl rfl, wa 4 rfl rfl, wa 458 rfl rfl⟩, ⟨by decide +kernel, by decide +kernel, by decide +kernel⟩⟩
set_option maxRecDepth 100000 in
theorem cal_X1_isAnswer : CalV yX1_isAnswer cX1_isAnswer 5 (some (.boolean)) 2 := ⟨⟨wa 448 rfl rfl, wa 449 rfl rfl, wa 3 rfl rfl, wa 450 rfl rfl⟩, ⟨by decide +kernel, by decide +kernel, by decide +kernel⟩⟩
set_option maxRecDepth 100000 in
theorem cal_X0_cellAt : CalV yX0_cellAt cX0_cellAt 3 (some (.int)) 2 := ⟨⟨wa 461 rfl rfl, wap (q := (yX0_cellAt, 6)) 9 (by decide +kernel) (by decide +kernel), wa 7 rfl rfl, wa 462 rfl rfl⟩, ⟨by decide +kernel, by decide +kernel, by decide +kernel⟩⟩
set_option maxRecDepth 100000 in
theorem cal_X0_setLabel : CalV yX0_setLabel cX0_setLabel 3 none 2 := ⟨⟨wa 466 rfl rfl, wap (q := (yX0_setLabel, 6)) 10 (by decide +kernel) (by decide +kernel), wa 7 rfl rfl, wa 467 rfl rfl⟩, ⟨by decide +kernel, by decide +kernel, by decide +kernel⟩⟩
set_option maxRecDepth 100000 in
theorem cal_X0_look : CalV yX0_look cX0_look 4 none 1 := ⟨⟨wa 424 rfl rfl, wa 425 rfl rfl, wa 7 rfl rfl, wa 426 rfl rfl⟩, ⟨by decide +kernel, by decide +kernel, by decide +kernel⟩⟩
set_option maxRecDepth 100000 in
theorem cal_X9_answersNow : CalV yX9_answersNow cX9_answersNow 1 (some (.object "TwoLetterForms$Answers")) 0 := ⟨⟨wa 421 rfl rfl, wap (q := (yX9_answersNow, 9)) 8 (by decide +kernel) (by decide +kernel), wa 1 rfl rfl, wa 422 rfl rfl⟩, ⟨by decide +kernel, by decide +kernel, by decide +kernel⟩⟩
set_option maxRecDepth 100000 in
theorem cal_X2_isLeftBy : CalV yX2_isLeftBy cX2_isLeftBy 6 (some (.boolean)) 4 := ⟨⟨wa 477 rfl rfl, wa 478 rfl rfl, wa 4 rfl rfl, wa 479 rfl rfl⟩, ⟨by decide +kernel, by decide +kernel, by decide +kernel⟩⟩
set_option maxRecDepth 100000 in
theorem cal_X8_add : CalV yX8_add cX8_add 6 none 4 := ⟨⟨wa 482 rfl rfl, wap (q := (yX8_add, 2)) 12 (by decide +kernel) (by decide +kernel), wa 8 rfl rfl, wa 483 rfl rfl⟩, ⟨by decide +kernel, by decide +kernel, by decide +kernel⟩⟩
set_option maxRecDepth 100000 in
theorem cal_X8_look : CalV yX8_look cX8_look 7 none 1 := ⟨⟨wa 473 rfl rfl, wa 474 rfl rfl, wa 8 rfl rfl, wa 475 rfl rfl⟩, ⟨by decide +kernel, by decide +kernel, by decide +kernel⟩⟩
set_option maxRecDepth 100000 in
theorem cal_X9_unitsNow : CalV yX9_unitsNow cX9_unitsNow 1 (some (.object "TwoLetterForms$Units")) 0 := ⟨⟨wa 470 rfl rfl, wap (q := (yX9_unitsNow, 9)) 11 (by decide +kernel) (by decide +kernel), wa 1 rfl rfl, wa 471 rfl rfl⟩, ⟨by decide +kernel, by decide +kernel, by decide +kernel⟩⟩
set_option maxRecDepth 100000 in
theorem cal_X0_labelAt : CalV yX0_labelAt cX0_labelAt 2 (some (.int)) 1 := ⟨⟨wa 502 rfl rfl, wa 503 rfl rfl, wa 7 rfl rfl, wa 504 rfl rfl⟩, ⟨by decide +kernel, by decide +kernel, by decide +kernel⟩⟩
set_option maxRecDepth 100000 in
theorem cal_X0_await : CalV yX0_await cX0_await 3 (some (.int)) 2 := ⟨⟨wa 499 rfl rfl, wap (q := (yX0_await, 6)) 15 (by decide +kernel) (by decide +kernel), wa 7 rfl rfl, wa 500 rfl rfl⟩, ⟨by decide +kernel, by decide +kernel, by decide +kernel⟩⟩
set_option maxRecDepth 100000 in
theorem cal_X0_behind : CalV yX0_behind cX0_behind 3 (some (.int)) 1 := ⟨⟨wa 507 rfl rfl, wap (q := (yX0_behind, 6)) 16 (by decide +kernel) (by decide +kernel), wa 7 rfl rfl, wa 508 rfl rfl⟩, ⟨by decide +kernel, by decide +kernel, by decide +kernel⟩⟩
set_option maxRecDepth 100000 in
theorem cal_X8_get : CalV yX8_get cX8_get 4 (some (.int)) 2 := ⟨⟨wa 510 rfl rfl, wa 511 rfl rfl, wa 8 rfl rfl, wa 512 rfl rfl⟩, ⟨by decide +kernel, by decide +kernel, by decide +kernel⟩⟩
set_option maxRecDepth 100000 in
theorem cal_X0_xOf : CalS yX0_xOf cX0_xOf 1 (some (.int)) 1 := ⟨⟨wa 514 rfl rfl, wa 7 rfl rfl, wa 515 rfl rfl⟩, ⟨by decide +kernel, by decide +kernel, by decide +kernel⟩⟩
set_option maxRecDepth 100000 in
theorem cal_X0_yOf : CalS yX0_yOf cX0_yOf 1 (some (.int)) 1 := ⟨⟨wa 517 rfl rfl, wa 7 rfl rfl, wa 518 rfl rfl⟩, ⟨by decide +kernel, by decide +kernel, by decide +kernel⟩⟩
set_option maxRecDepth 100000 in
theorem cal_X0_spread : CalV yX0_spread cX0_spread 9 none 2 := ⟨⟨wa 495 rfl rfl, wap (q := (yX0_spread, 6)) 14 (by decide +kernel) (by decide +kernel), wa 7 rfl rfl, wa 496 rfl rfl⟩, ⟨by decide +kernel, by decide +kernel, by decide +kernel⟩⟩
set_option maxRecDepth 100000 in
theorem cal_X0_findFamilies : CalV yX0_findFamilies cX0_findFamilies 3 none 1 := ⟨⟨wa 489 rfl rfl, wa 490 rfl rfl, wa 7 rfl rfl, wa 491 rfl rfl⟩, ⟨by decide +kernel, by decide +kernel, by decide +kernel⟩⟩
set_option maxRecDepth 100000 in
theorem cal_X9_answersInFamilies : CalV yX9_answersInFamilies cX9_answersInFamilies 1 (some (.object "TwoLetterForms$Answers")) 0 := ⟨⟨wa 486 rfl rfl, wap (q := (yX9_answersInFamilies, 9)) 13 (by decide +kernel) (by decide +kernel), wa 1 rfl rfl, wa 487 rfl rfl⟩, ⟨by decide +kernel, by decide +kernel, by decide +kernel⟩⟩
set_option maxRecDepth 100000 in
theorem cal_X3_at : CalV yX3_at cX3_at 5 (some (.long)) 1 := ⟨⟨wa 534 rfl rfl, wap (q := (yX3_at, 6)) 19 (by decide +kernel) (by decide +kernel), wa 9 rfl rfl, wa 535 rfl rfl⟩, ⟨by decide +kernel, by decide +kernel, by decide +kernel⟩⟩
set_option maxRecDepth 100000 in
theorem cal_X3_greatestFrom : CalV yX3_greatestFrom cX3_greatestFrom 7 (some (.int)) 1 := ⟨⟨wa 530 rfl rfl, wap (q := (yX3_greatestFrom, 6)) 18 (by decide +kernel) (by decide +kernel), wa 9 rfl rfl, wa 531 rfl rfl⟩, ⟨by decide +kernel, by decide +kernel, by decide +kernel⟩⟩
set_option maxRecDepth 100000 in
theorem cal_X3_keep : CalV yX3_keep cX3_keep 10 none 1 := ⟨⟨wa 538 rfl rfl, wap (q := (yX3_keep, 6)) 20 (by decide +kernel) (by decide +kernel), wa 9 rfl rfl, wa 539 rfl rfl⟩, ⟨by decide +kernel, by decide +kernel, by decide +kernel⟩⟩
set_option maxRecDepth 100000 in
theorem cal_X3_goBehind : CalV yX3_goBehind cX3_goBehind 6 none 1 := ⟨⟨wa 542 rfl rfl, wap (q := (yX3_goBehind, 6)) 21 (by decide +kernel) (by decide +kernel), wa 9 rfl rfl, wa 543 rfl rfl⟩, ⟨by decide +kernel, by decide +kernel, by decide +kernel⟩⟩
set_option maxRecDepth 100000 in
theorem cal_X3_isRowBeyond : CalV yX3_isRowBeyond cX3_isRowBeyond 2 (some (.boolean)) 0 := ⟨⟨wa 546 rfl rfl, wap (q := (yX3_isRowBeyond, 6)) 22 (by decide +kernel) (by decide +kernel), wa 9 rfl rfl, wa 547 rfl rfl⟩, ⟨by decide +kernel, by decide +kernel, by decide +kernel⟩⟩
set_option maxRecDepth 100000 in
theorem cal_X3_look : CalV yX3_look cX3_look 4 none 1 := ⟨⟨wa 524 rfl rfl, wa 525 rfl rfl, wa 9 rfl rfl, wa 526 rfl rfl⟩, ⟨by decide +kernel, by decide +kernel, by decide +kernel⟩⟩
set_option maxRecDepth 100000 in
theorem cal_X9_partsNow : CalV yX9_partsNow cX9_partsNow 1 (some (.object "TwoLetterForms$Parts")) 0 := ⟨⟨wa 521 rfl rfl, wap (q := (yX9_partsNow, 9)) 17 (by decide +kernel) (by decide +kernel), wa 1 rfl rfl, wa 522 rfl rfl⟩, ⟨by decide +kernel, by decide +kernel, by decide +kernel⟩⟩
set_option maxRecDepth 100000 in
theorem cal_X3_above : CalV yX3_above cX3_above 2 (some (.long)) 1 := ⟨⟨wa 555 rfl rfl, wa 556 rfl rfl, wa 9 rfl rfl, wa 557 rfl rfl⟩, ⟨by decide +kernel, by decide +kernel, by decide +kernel⟩⟩
set_option maxRecDepth 100000 in
theorem cal_X3_below : CalV yX3_below cX3_below 2 (some (.long)) 1 := ⟨⟨wa 559 rfl rfl, wa 560 rfl rfl, wa 9 rfl rfl, wa 561 rfl rfl⟩, ⟨by decide +kernel, by decide +kernel, by decide +kernel⟩⟩
set_option maxRecDepth 100000 in
theorem cal_X9_convergentAnswers : CalV yX9_convergentAnswers cX9_convergentAnswers 4 (some (.int)) 0 := ⟨⟨wa 552 rfl rfl, wap (q := (yX9_convergentAnswers, 9)) 23 (by decide +kernel) (by decide +kernel), wa 1 rfl rfl, wa 553 rfl rfl⟩, ⟨by decide +kernel, by decide +kernel, by decide +kernel⟩⟩
set_option maxRecDepth 100000 in
theorem cal_X9_told : CalV yX9_told cX9_told 2 (some (.int)) 1 := ⟨⟨wa 416 rfl rfl, wa 417 rfl rfl, wa 1 rfl rfl, wa 418 rfl rfl⟩, ⟨by decide +kernel, by decide +kernel, by decide +kernel⟩⟩
set_option maxRecDepth 100000 in
theorem cal_X10_power : CalS yX10_power cX10_power 6 (some (.long)) 2 := ⟨⟨wa 1006 rfl rfl, wa 12 rfl rfl, wa 1007 rfl rfl⟩, ⟨by decide +kernel, by decide +kernel, by decide +kernel⟩⟩
set_option maxRecDepth 100000 in
theorem cal_X10_valueAt : CalV yX10_valueAt cX10_valueAt 8 (some (.long)) 2 := ⟨⟨wa 1003 rfl rfl, wap (q := (yX10_valueAt, 39)) 34 (by decide +kernel) (by decide +kernel), wa 12 rfl rfl, wa 1004 rfl rfl⟩, ⟨by decide +kernel, by decide +kernel, by decide +kernel⟩⟩
set_option maxRecDepth 100000 in
theorem cal_X10_tellsAnswers : CalV yX10_tellsAnswers cX10_tellsAnswers 3 none 0 := ⟨⟨wa 1018 rfl rfl, wap (q := (yX10_tellsAnswers, 39)) 36 (by decide +kernel) (by decide +kernel), wa 12 rfl rfl, wa 1019 rfl rfl⟩, ⟨by decide +kernel, by decide +kernel, by decide +kernel⟩⟩
set_option maxRecDepth 100000 in
theorem cal_X10_tellsUnits : CalV yX10_tellsUnits cX10_tellsUnits 8 none 0 := ⟨⟨wa 1065 rfl rfl, wap (q := (yX10_tellsUnits, 39)) 43 (by decide +kernel) (by decide +kernel), wa 12 rfl rfl, wa 1066 rfl rfl⟩, ⟨by decide +kernel, by decide +kernel, by decide +kernel⟩⟩
set_option maxRecDepth 100000 in
theorem cal_X10_cell : CalV yX10_cell cX10_cell 3 (some (.int)) 2 := ⟨⟨wa 1073 rfl rfl, wap (q := (yX10_cell, 39)) 45 (by decide +kernel) (by decide +kernel), wa 12 rfl rfl, wa 1074 rfl rfl⟩, ⟨by decide +kernel, by decide +kernel, by decide +kernel⟩⟩
set_option maxRecDepth 100000 in
theorem cal_X10_leastOf : CalV yX10_leastOf cX10_leastOf 3 (some (.int)) 1 := ⟨⟨wa 1081 rfl rfl, wap (q := (yX10_leastOf, 39)) 47 (by decide +kernel) (by decide +kernel), wa 12 rfl rfl, wa 1082 rfl rfl⟩, ⟨by decide +kernel, by decide +kernel, by decide +kernel⟩⟩
set_option maxRecDepth 100000 in
theorem cal_X10_links : CalV yX10_links cX10_links 5 none 2 := ⟨⟨wa 1077 rfl rfl, wap (q := (yX10_links, 39)) 46 (by decide +kernel) (by decide +kernel), wa 12 rfl rfl, wa 1078 rfl rfl⟩, ⟨by decide +kernel, by decide +kernel, by decide +kernel⟩⟩
set_option maxRecDepth 100000 in
theorem cal_X10_tellsFamilies : CalV yX10_tellsFamilies cX10_tellsFamilies 5 none 0 := ⟨⟨wa 1069 rfl rfl, wap (q := (yX10_tellsFamilies, 39)) 44 (by decide +kernel) (by decide +kernel), wa 12 rfl rfl, wa 1070 rfl rfl⟩, ⟨by decide +kernel, by decide +kernel, by decide +kernel⟩⟩
set_option maxRecDepth 100000 in
theorem cal_X10_rowAt : CalV yX10_rowAt cX10_rowAt 6 (some (.long)) 1 := ⟨⟨wa 1038 rfl rfl, wap (q := (yX10_rowAt, 39)) 40 (by decide +kernel) (by decide +kernel), wa 12 rfl rfl, wa 1039 rfl rfl⟩, ⟨by decide +kernel, by decide +kernel, by decide +kernel⟩⟩
set_option maxRecDepth 100000 in
theorem cal_X10_greatest : CalV yX10_greatest cX10_greatest 7 (some (.int)) 1 := ⟨⟨wa 1034 rfl rfl, wap (q := (yX10_greatest, 39)) 39 (by decide +kernel) (by decide +kernel), wa 12 rfl rfl, wa 1035 rfl rfl⟩, ⟨by decide +kernel, by decide +kernel, by decide +kernel⟩⟩
set_option maxRecDepth 100000 in
theorem cal_X10_goesOn : CalV yX10_goesOn cX10_goesOn 4 (some (.boolean)) 1 := ⟨⟨wa 1042 rfl rfl, wap (q := (yX10_goesOn, 39)) 41 (by decide +kernel) (by decide +kernel), wa 12 rfl rfl, wa 1043 rfl rfl⟩, ⟨by decide +kernel, by decide +kernel, by decide +kernel⟩⟩
set_option maxRecDepth 100000 in
theorem cal_X10_tellsParts : CalV yX10_tellsParts cX10_tellsParts 3 none 0 := ⟨⟨wa 1030 rfl rfl, wap (q := (yX10_tellsParts, 39)) 38 (by decide +kernel) (by decide +kernel), wa 12 rfl rfl, wa 1031 rfl rfl⟩, ⟨by decide +kernel, by decide +kernel, by decide +kernel⟩⟩
set_option maxRecDepth 100000 in
theorem cal_X10_tellsConvergent : CalV yX10_tellsConvergent cX10_tellsConvergent 11 none 1 := ⟨⟨wa 1053 rfl rfl, wap (q := (yX10_tellsConvergent, 39)) 42 (by decide +kernel) (by decide +kernel), wa 12 rfl rfl, wa 1054 rfl rfl⟩, ⟨by decide +kernel, by decide +kernel, by decide +kernel⟩⟩
set_option maxRecDepth 100000 in
theorem cal_X10_answering : CalV yX10_answering cX10_answering 3 (some (.int)) 0 := ⟨⟨wa 1085 rfl rfl, wap (q := (yX10_answering, 39)) 48 (by decide +kernel) (by decide +kernel), wa 12 rfl rfl, wa 1086 rfl rfl⟩, ⟨by decide +kernel, by decide +kernel, by decide +kernel⟩⟩
set_option maxRecDepth 100000 in
theorem cal_X10_told : CalV yX10_told cX10_told 2 (some (.int)) 1 := ⟨⟨wa 1060 rfl rfl, wa 1061 rfl rfl, wa 12 rfl rfl, wa 1062 rfl rfl⟩, ⟨by decide +kernel, by decide +kernel, by decide +kernel⟩⟩
set_option maxRecDepth 100000 in
theorem cal_X9_value : CalV yX9_value cX9_value 3 (some (.long)) 2 := ⟨⟨wa 564 rfl rfl, wa 565 rfl rfl, wa 1 rfl rfl, wa 566 rfl rfl⟩, ⟨by decide +kernel, by decide +kernel, by decide +kernel⟩⟩
set_option maxRecDepth 100000 in
theorem cal_X10_value : CalV yX10_value cX10_value 3 (some (.long)) 2 := ⟨⟨wa 1088 rfl rfl, wa 1089 rfl rfl, wa 12 rfl rfl, wa 1090 rfl rfl⟩, ⟨by decide +kernel, by decide +kernel, by decide +kernel⟩⟩
set_option maxRecDepth 100000 in
theorem cal_X0_cellOfAnswer : CalV yX0_cellOfAnswer cX0_cellOfAnswer 4 (some (.int)) 1 := ⟨⟨wa 574 rfl rfl, wa 575 rfl rfl, wa 7 rfl rfl, wa 576 rfl rfl⟩, ⟨by decide +kernel, by decide +kernel, by decide +kernel⟩⟩
set_option maxRecDepth 100000 in
theorem cal_X9_answer : CalV yX9_answer cX9_answer 5 (some (.int)) 2 := ⟨⟨wa 570 rfl rfl, wa 571 rfl rfl, wa 1 rfl rfl, wa 572 rfl rfl⟩, ⟨by decide +kernel, by decide +kernel, by decide +kernel⟩⟩
set_option maxRecDepth 100000 in
theorem cal_X10_answer : CalV yX10_answer cX10_answer 3 (some (.int)) 2 := ⟨⟨wa 1094 rfl rfl, wa 1095 rfl rfl, wa 12 rfl rfl, wa 1096 rfl rfl⟩, ⟨by decide +kernel, by decide +kernel, by decide +kernel⟩⟩
set_option maxRecDepth 100000 in
theorem cal_J9_floorMod_f86c9 : CalS yJ9_floorMod_f86c9 cJ9_floorMod_f86c9 6 (some (.long)) 2 := ⟨⟨wa 595 rfl rfl, wa 6 rfl rfl, wa 596 rfl rfl⟩, ⟨by decide +kernel, by decide +kernel, by decide +kernel⟩⟩
set_option maxRecDepth 100000 in
theorem cal_J9_floorMod_1978a : CalS yJ9_floorMod_1978a cJ9_floorMod_1978a 3 (some (.int)) 2 := ⟨⟨wa 592 rfl rfl, wa 6 rfl rfl, wa 593 rfl rfl⟩, ⟨by decide +kernel, by decide +kernel, by decide +kernel⟩⟩
set_option maxRecDepth 100000 in
theorem cal_X2_remaindersBy : CalV yX2_remaindersBy cX2_remaindersBy 5 (some (.int)) 1 := ⟨⟨wa 587 rfl rfl, wa 588 rfl rfl, wa 4 rfl rfl, wa 589 rfl rfl⟩, ⟨by decide +kernel, by decide +kernel, by decide +kernel⟩⟩
set_option maxRecDepth 100000 in
theorem cal_J6_bitCount_0f7a4 : CalS yJ6_bitCount_0f7a4 cJ6_bitCount_0f7a4 1 (some (.int)) 1 := ⟨⟨wa 598 rfl rfl, wa 15 rfl rfl, wa 599 rfl rfl⟩, ⟨by decide +kernel, by decide +kernel, by decide +kernel⟩⟩
set_option maxRecDepth 100000 in
theorem cal_J9_floorMod_7cf53 : CalS yJ9_floorMod_7cf53 cJ9_floorMod_7cf53 3 (some (.int)) 2 := ⟨⟨wa 609 rfl rfl, wa 6 rfl rfl, wa 610 rfl rfl⟩, ⟨by decide +kernel, by decide +kernel, by decide +kernel⟩⟩
set_option maxRecDepth 100000 in
theorem cal_X1_isBarredBy : CalV yX1_isBarredBy cX1_isBarredBy 2 (some (.boolean)) 1 := ⟨⟨wa 604 rfl rfl, wa 605 rfl rfl, wa 3 rfl rfl, wa 606 rfl rfl⟩, ⟨by decide +kernel, by decide +kernel, by decide +kernel⟩⟩
set_option maxRecDepth 100000 in
theorem cal_X9_prime : CalV yX9_prime cX9_prime 4 (some (.int)) 2 := ⟨⟨wa 581 rfl rfl, wa 582 rfl rfl, wa 1 rfl rfl, wa 583 rfl rfl⟩, ⟨by decide +kernel, by decide +kernel, by decide +kernel⟩⟩
set_option maxRecDepth 100000 in
theorem cal_X10_remainders : CalV yX10_remainders cX10_remainders 4 (some (.int)) 1 := ⟨⟨wa 999 rfl rfl, wap (q := (yX10_remainders, 39)) 33 (by decide +kernel) (by decide +kernel), wa 12 rfl rfl, wa 1000 rfl rfl⟩, ⟨by decide +kernel, by decide +kernel, by decide +kernel⟩⟩
set_option maxRecDepth 100000 in
theorem cal_X10_bars : CalV yX10_bars cX10_bars 3 (some (.boolean)) 1 := ⟨⟨wa 1010 rfl rfl, wap (q := (yX10_bars, 39)) 35 (by decide +kernel) (by decide +kernel), wa 12 rfl rfl, wa 1011 rfl rfl⟩, ⟨by decide +kernel, by decide +kernel, by decide +kernel⟩⟩
set_option maxRecDepth 100000 in
theorem cal_X10_prime : CalV yX10_prime cX10_prime 4 (some (.int)) 2 := ⟨⟨wa 993 rfl rfl, wa 994 rfl rfl, wa 12 rfl rfl, wa 995 rfl rfl⟩, ⟨by decide +kernel, by decide +kernel, by decide +kernel⟩⟩
set_option maxRecDepth 100000 in
theorem cal_X1_firstBar : CalV yX1_firstBar cX1_firstBar 2 (some (.int)) 0 := ⟨⟨wa 616 rfl rfl, wa 617 rfl rfl, wa 3 rfl rfl, wa 618 rfl rfl⟩, ⟨by decide +kernel, by decide +kernel, by decide +kernel⟩⟩
set_option maxRecDepth 100000 in
theorem cal_X9_reason : CalV yX9_reason cX9_reason 3 (some (.int)) 1 := ⟨⟨wa 612 rfl rfl, wa 613 rfl rfl, wa 1 rfl rfl, wa 614 rfl rfl⟩, ⟨by decide +kernel, by decide +kernel, by decide +kernel⟩⟩
set_option maxRecDepth 100000 in
theorem cal_X10_firstBar : CalV yX10_firstBar cX10_firstBar 2 (some (.int)) 0 := ⟨⟨wa 1022 rfl rfl, wap (q := (yX10_firstBar, 39)) 37 (by decide +kernel) (by decide +kernel), wa 12 rfl rfl, wa 1023 rfl rfl⟩, ⟨by decide +kernel, by decide +kernel, by decide +kernel⟩⟩
set_option maxRecDepth 100000 in
theorem cal_X10_reason : CalV yX10_reason cX10_reason 3 (some (.int)) 1 := ⟨⟨wa 1013 rfl rfl, wa 1014 rfl rfl, wa 12 rfl rfl, wa 1015 rfl rfl⟩, ⟨by decide +kernel, by decide +kernel, by decide +kernel⟩⟩
set_option maxRecDepth 100000 in
theorem cal_X9_unit : CalV yX9_unit cX9_unit 4 (some (.int)) 2 := ⟨⟨wa 622 rfl rfl, wa 623 rfl rfl, wa 1 rfl rfl, wa 624 rfl rfl⟩, ⟨by decide +kernel, by decide +kernel, by decide +kernel⟩⟩
set_option maxRecDepth 100000 in
theorem cal_X10_unit : CalV yX10_unit cX10_unit 3 (some (.int)) 2 := ⟨⟨wa 1098 rfl rfl, wa 1099 rfl rfl, wa 12 rfl rfl, wa 1100 rfl rfl⟩, ⟨by decide +kernel, by decide +kernel, by decide +kernel⟩⟩
set_option maxRecDepth 100000 in
theorem cal_X0_sizeOfFamily : CalV yX0_sizeOfFamily cX0_sizeOfFamily 4 (some (.int)) 1 := ⟨⟨wa 631 rfl rfl, wa 632 rfl rfl, wa 7 rfl rfl, wa 633 rfl rfl⟩, ⟨by decide +kernel, by decide +kernel, by decide +kernel⟩⟩
set_option maxRecDepth 100000 in
theorem cal_X9_family : CalV yX9_family cX9_family 3 (some (.int)) 1 := ⟨⟨wa 627 rfl rfl, wa 628 rfl rfl, wa 1 rfl rfl, wa 629 rfl rfl⟩, ⟨by decide +kernel, by decide +kernel, by decide +kernel⟩⟩
set_option maxRecDepth 100000 in
theorem cal_X10_family : CalV yX10_family cX10_family 4 (some (.int)) 1 := ⟨⟨wa 1103 rfl rfl, wa 1104 rfl rfl, wa 12 rfl rfl, wa 1105 rfl rfl⟩, ⟨by decide +kernel, by decide +kernel, by decide +kernel⟩⟩
set_option maxRecDepth 100000 in
theorem cal_X3_get : CalV yX3_get cX3_get 2 (some (.int)) 1 := ⟨⟨wa 639 rfl rfl, wa 640 rfl rfl, wa 9 rfl rfl, wa 641 rfl rfl⟩, ⟨by decide +kernel, by decide +kernel, by decide +kernel⟩⟩
set_option maxRecDepth 100000 in
theorem cal_X9_part : CalV yX9_part cX9_part 3 (some (.int)) 1 := ⟨⟨wa 635 rfl rfl, wa 636 rfl rfl, wa 1 rfl rfl, wa 637 rfl rfl⟩, ⟨by decide +kernel, by decide +kernel, by decide +kernel⟩⟩
set_option maxRecDepth 100000 in
theorem cal_X10_part : CalV yX10_part cX10_part 2 (some (.int)) 1 := ⟨⟨wa 1025 rfl rfl, wa 1026 rfl rfl, wa 12 rfl rfl, wa 1027 rfl rfl⟩, ⟨by decide +kernel, by decide +kernel, by decide +kernel⟩⟩
set_option maxRecDepth 100000 in
theorem cal_X9_convergent : CalV yX9_convergent cX9_convergent 4 (some (.long)) 2 := ⟨⟨wa 643 rfl rfl, wa 644 rfl rfl, wa 1 rfl rfl, wa 645 rfl rfl⟩, ⟨by decide +kernel, by decide +kernel, by decide +kernel⟩⟩
set_option maxRecDepth 100000 in
theorem cal_X10_convergent : CalV yX10_convergent cX10_convergent 3 (some (.long)) 2 := ⟨⟨wa 1047 rfl rfl, wa 1048 rfl rfl, wa 12 rfl rfl, wa 1049 rfl rfl⟩, ⟨by decide +kernel, by decide +kernel, by decide +kernel⟩⟩
set_option maxRecDepth 100000 in
theorem cal_X9_see : CalV yX9_see cX9_see 4 (some (.int)) 3 := ⟨⟨wa 647 rfl rfl, wa 648 rfl rfl, wa 1 rfl rfl, wa 649 rfl rfl⟩, ⟨by decide +kernel, by decide +kernel, by decide +kernel⟩⟩
set_option maxRecDepth 100000 in
theorem cal_X10_see : CalV yX10_see cX10_see 4 (some (.int)) 3 := ⟨⟨wa 1147 rfl rfl, wa 1148 rfl rfl, wa 12 rfl rfl, wa 1149 rfl rfl⟩, ⟨by decide +kernel, by decide +kernel, by decide +kernel⟩⟩
set_option maxRecDepth 100000 in
theorem cal_X9_isAsSeen : CalV yX9_isAsSeen cX9_isAsSeen 3 (some (.boolean)) 1 := ⟨⟨wa 659 rfl rfl, wap (q := (yX9_isAsSeen, 9)) 24 (by decide +kernel) (by decide +kernel), wa 1 rfl rfl, wa 660 rfl rfl⟩, ⟨by decide +kernel, by decide +kernel, by decide +kernel⟩⟩
set_option maxRecDepth 100000 in
theorem cal_X9_fits : CalV yX9_fits cX9_fits 7 (some (.int)) 2 := ⟨⟨wa 653 rfl rfl, wa 654 rfl rfl, wa 1 rfl rfl, wa 655 rfl rfl⟩, ⟨by decide +kernel, by decide +kernel, by decide +kernel⟩⟩
set_option maxRecDepth 100000 in
theorem cal_X10_fits : CalV yX10_fits cX10_fits 10 (some (.int)) 2 := ⟨⟨wa 1151 rfl rfl, wa 1152 rfl rfl, wa 12 rfl rfl, wa 1153 rfl rfl⟩, ⟨by decide +kernel, by decide +kernel, by decide +kernel⟩⟩
set_option maxRecDepth 100000 in
theorem cal_X1_valuesAboveM : CalV yX1_valuesAboveM cX1_valuesAboveM 5 (some (.long)) 0 := ⟨⟨wa 666 rfl rfl, wa 667 rfl rfl, wa 3 rfl rfl, wa 668 rfl rfl⟩, ⟨by decide +kernel, by decide +kernel, by decide +kernel⟩⟩
set_option maxRecDepth 100000 in
theorem cal_X1_twos : CalV yX1_twos cX1_twos 3 (some (.long)) 0 := ⟨⟨wa 670 rfl rfl, wa 671 rfl rfl, wa 3 rfl rfl, wa 672 rfl rfl⟩, ⟨by decide +kernel, by decide +kernel, by decide +kernel⟩⟩
set_option maxRecDepth 100000 in
theorem cal_J9_abs_067f4 : CalS yJ9_abs_067f4 cJ9_abs_067f4 2 (some (.long)) 1 := ⟨⟨wa 678 rfl rfl, wa 6 rfl rfl, wa 679 rfl rfl⟩, ⟨by decide +kernel, by decide +kernel, by decide +kernel⟩⟩
set_option maxRecDepth 100000 in
theorem cal_X9_commonDivisor : CalS yX9_commonDivisor cX9_commonDivisor 11 (some (.long)) 2 := ⟨⟨wa 681 rfl rfl, wa 1 rfl rfl, wa 682 rfl rfl⟩, ⟨by decide +kernel, by decide +kernel, by decide +kernel⟩⟩
set_option maxRecDepth 100000 in
theorem cal_X9_lowest : CalS yX9_lowest cX9_lowest 7 (some (.long)) 3 := ⟨⟨wa 675 rfl rfl, wa 1 rfl rfl, wa 676 rfl rfl⟩, ⟨by decide +kernel, by decide +kernel, by decide +kernel⟩⟩
set_option maxRecDepth 100000 in
theorem cal_X9_odds : CalV yX9_odds cX9_odds 2 (some (.long)) 1 := ⟨⟨wa 662 rfl rfl, wa 663 rfl rfl, wa 1 rfl rfl, wa 664 rfl rfl⟩, ⟨by decide +kernel, by decide +kernel, by decide +kernel⟩⟩
set_option maxRecDepth 100000 in
theorem cal_X10_lowest : CalS yX10_lowest cX10_lowest 11 (some (.long)) 3 := ⟨⟨wa 1159 rfl rfl, wa 12 rfl rfl, wa 1160 rfl rfl⟩, ⟨by decide +kernel, by decide +kernel, by decide +kernel⟩⟩
set_option maxRecDepth 100000 in
theorem cal_X10_odds : CalV yX10_odds cX10_odds 6 (some (.long)) 1 := ⟨⟨wa 1155 rfl rfl, wa 1156 rfl rfl, wa 12 rfl rfl, wa 1157 rfl rfl⟩, ⟨by decide +kernel, by decide +kernel, by decide +kernel⟩⟩
set_option maxRecDepth 100000 in
theorem cal_X1_valuesTogether : CalV yX1_valuesTogether cX1_valuesTogether 5 (some (.long)) 0 := ⟨⟨wa 688 rfl rfl, wa 689 rfl rfl, wa 3 rfl rfl, wa 690 rfl rfl⟩, ⟨by decide +kernel, by decide +kernel, by decide +kernel⟩⟩
set_option maxRecDepth 100000 in
theorem cal_X9_mean : CalV yX9_mean cX9_mean 2 (some (.long)) 1 := ⟨⟨wa 684 rfl rfl, wa 685 rfl rfl, wa 1 rfl rfl, wa 686 rfl rfl⟩, ⟨by decide +kernel, by decide +kernel, by decide +kernel⟩⟩
set_option maxRecDepth 100000 in
theorem cal_X10_mean : CalV yX10_mean cX10_mean 6 (some (.long)) 1 := ⟨⟨wa 1162 rfl rfl, wa 1163 rfl rfl, wa 12 rfl rfl, wa 1164 rfl rfl⟩, ⟨by decide +kernel, by decide +kernel, by decide +kernel⟩⟩
set_option maxRecDepth 100000 in
theorem cal_X9_event : CalV yX9_event cX9_event 3 (some (.int)) 2 := ⟨⟨wa 692 rfl rfl, wa 693 rfl rfl, wa 1 rfl rfl, wa 694 rfl rfl⟩, ⟨by decide +kernel, by decide +kernel, by decide +kernel⟩⟩
set_option maxRecDepth 100000 in
theorem cal_X10_event : CalV yX10_event cX10_event 3 (some (.int)) 2 := ⟨⟨wa 1166 rfl rfl, wa 1167 rfl rfl, wa 12 rfl rfl, wa 1168 rfl rfl⟩, ⟨by decide +kernel, by decide +kernel, by decide +kernel⟩⟩
set_option maxRecDepth 100000 in
theorem cal_J9_min_7cf53 : CalS yJ9_min_7cf53 cJ9_min_7cf53 2 (some (.int)) 2 := ⟨⟨wa 710 rfl rfl, wa 6 rfl rfl, wa 711 rfl rfl⟩, ⟨by decide +kernel, by decide +kernel, by decide +kernel⟩⟩
set_option maxRecDepth 100000 in
theorem cal_X2_raise : CalV yX2_raise cX2_raise 2 none 1 := ⟨⟨wa 705 rfl rfl, wa 706 rfl rfl, wa 4 rfl rfl, wa 707 rfl rfl⟩, ⟨by decide +kernel, by decide +kernel, by decide +kernel⟩⟩
set_option maxRecDepth 100000 in
theorem cal_X1_addToM : CalV yX1_addToM cX1_addToM 2 none 1 := ⟨⟨wa 714 rfl rfl, wa 715 rfl rfl, wa 3 rfl rfl, wa 716 rfl rfl⟩, ⟨by decide +kernel, by decide +kernel, by decide +kernel⟩⟩
set_option maxRecDepth 100000 in
theorem cal_X9_tryEvents : CalV yX9_tryEvents cX9_tryEvents 3 none 0 := ⟨⟨wa 701 rfl rfl, wap (q := (yX9_tryEvents, 9)) 25 (by decide +kernel) (by decide +kernel), wa 1 rfl rfl, wa 702 rfl rfl⟩, ⟨by decide +kernel, by decide +kernel, by decide +kernel⟩⟩
set_option maxRecDepth 100000 in
theorem cal_X1_howManyAnswers : CalV yX1_howManyAnswers cX1_howManyAnswers 4 (some (.int)) 0 := ⟨⟨wa 719 rfl rfl, wa 720 rfl rfl, wa 3 rfl rfl, wa 721 rfl rfl⟩, ⟨by decide +kernel, by decide +kernel, by decide +kernel⟩⟩
set_option maxRecDepth 100000 in
theorem cal_X9_after : CalV yX9_after cX9_after 2 (some (.int)) 1 := ⟨⟨wa 696 rfl rfl, wa 697 rfl rfl, wa 1 rfl rfl, wa 698 rfl rfl⟩, ⟨by decide +kernel, by decide +kernel, by decide +kernel⟩⟩
set_option maxRecDepth 100000 in
theorem cal_J9_min_f86c9 : CalS yJ9_min_f86c9 cJ9_min_f86c9 4 (some (.long)) 2 := ⟨⟨wa 1178 rfl rfl, wa 6 rfl rfl, wa 1179 rfl rfl⟩, ⟨by decide +kernel, by decide +kernel, by decide +kernel⟩⟩
set_option maxRecDepth 100000 in
theorem cal_X10_happens : CalV yX10_happens cX10_happens 4 none 2 := ⟨⟨wa 1175 rfl rfl, wap (q := (yX10_happens, 39)) 55 (by decide +kernel) (by decide +kernel), wa 12 rfl rfl, wa 1176 rfl rfl⟩, ⟨by decide +kernel, by decide +kernel, by decide +kernel⟩⟩
set_option maxRecDepth 100000 in
theorem cal_X10_after : CalV yX10_after cX10_after 6 (some (.int)) 1 := ⟨⟨wa 1170 rfl rfl, wa 1171 rfl rfl, wa 12 rfl rfl, wa 1172 rfl rfl⟩, ⟨by decide +kernel, by decide +kernel, by decide +kernel⟩⟩
set_option maxRecDepth 100000 in
theorem cal_X9_book : CalV yX9_book cX9_book 3 (some (.int)) 2 := ⟨⟨wa 723 rfl rfl, wa 724 rfl rfl, wa 1 rfl rfl, wa 725 rfl rfl⟩, ⟨by decide +kernel, by decide +kernel, by decide +kernel⟩⟩
set_option maxRecDepth 100000 in
theorem cal_X10_book : CalV yX10_book cX10_book 3 (some (.int)) 2 := ⟨⟨wa 1182 rfl rfl, wa 1183 rfl rfl, wa 12 rfl rfl, wa 1184 rfl rfl⟩, ⟨by decide +kernel, by decide +kernel, by decide +kernel⟩⟩
set_option maxRecDepth 100000 in
theorem cal_X9_looked : CalV yX9_looked cX9_looked 4 (some (.int)) 0 := ⟨⟨wa 727 rfl rfl, wa 728 rfl rfl, wa 1 rfl rfl, wa 729 rfl rfl⟩, ⟨by decide +kernel, by decide +kernel, by decide +kernel⟩⟩
set_option maxRecDepth 100000 in
theorem cal_X10_looked : CalV yX10_looked cX10_looked 2 (some (.int)) 0 := ⟨⟨wa 1186 rfl rfl, wa 1187 rfl rfl, wa 12 rfl rfl, wa 1188 rfl rfl⟩, ⟨by decide +kernel, by decide +kernel, by decide +kernel⟩⟩
set_option maxRecDepth 100000 in
theorem cal_X9_tapeAt : CalV yX9_tapeAt cX9_tapeAt 2 (some (.object "TwoLetterForms$Tape")) 1 := ⟨⟨wa 736 rfl rfl, wap (q := (yX9_tapeAt, 9)) 26 (by decide +kernel) (by decide +kernel), wa 1 rfl rfl, wa 737 rfl rfl⟩, ⟨by decide +kernel, by decide +kernel, by decide +kernel⟩⟩
set_option maxRecDepth 100000 in
theorem cal_X7_holdsNothing : CalV yX7_holdsNothing cX7_holdsNothing 1 (some (.boolean)) 0 := ⟨⟨wa 739 rfl rfl, wa 740 rfl rfl, wa 11 rfl rfl, wa 741 rfl rfl⟩, ⟨by decide +kernel, by decide +kernel, by decide +kernel⟩⟩
set_option maxRecDepth 100000 in
theorem cal_X7_has : CalV yX7_has cX7_has 2 (some (.boolean)) 1 := ⟨⟨wa 743 rfl rfl, wa 744 rfl rfl, wa 11 rfl rfl, wa 745 rfl rfl⟩, ⟨by decide +kernel, by decide +kernel, by decide +kernel⟩⟩
set_option maxRecDepth 100000 in
theorem cal_X7_get : CalV yX7_get cX7_get 2 (some (.long)) 1 := ⟨⟨wa 747 rfl rfl, wa 748 rfl rfl, wa 11 rfl rfl, wa 749 rfl rfl⟩, ⟨by decide +kernel, by decide +kernel, by decide +kernel⟩⟩
set_option maxRecDepth 100000 in
theorem cal_X9_judge : CalV yX9_judge cX9_judge 6 (some (.int)) 2 := ⟨⟨wa 731 rfl rfl, wa 732 rfl rfl, wa 1 rfl rfl, wa 733 rfl rfl⟩, ⟨by decide +kernel, by decide +kernel, by decide +kernel⟩⟩
set_option maxRecDepth 100000 in
theorem cal_X10_isTape : CalS yX10_isTape cX10_isTape 1 (some (.boolean)) 1 := ⟨⟨wa 1194 rfl rfl, wa 12 rfl rfl, wa 1195 rfl rfl⟩, ⟨by decide +kernel, by decide +kernel, by decide +kernel⟩⟩
set_option maxRecDepth 100000 in
theorem cal_X10_judge : CalV yX10_judge cX10_judge 4 (some (.int)) 2 := ⟨⟨wa 1190 rfl rfl, wa 1191 rfl rfl, wa 12 rfl rfl, wa 1192 rfl rfl⟩, ⟨by decide +kernel, by decide +kernel, by decide +kernel⟩⟩
set_option maxRecDepth 100000 in
theorem cal_X4_copy : CalV yX4_copy cX4_copy 2 none 1 := ⟨⟨wa 761 rfl rfl, wa 762 rfl rfl, wa 5 rfl rfl, wa 763 rfl rfl⟩, ⟨by decide +kernel, by decide +kernel, by decide +kernel⟩⟩
set_option maxRecDepth 100000 in
theorem cal_X6_copy : CalV yX6_copy cX6_copy 2 none 1 := ⟨⟨wa 756 rfl rfl, wa 757 rfl rfl, wa 2 rfl rfl, wa 758 rfl rfl⟩, ⟨by decide +kernel, by decide +kernel, by decide +kernel⟩⟩
set_option maxRecDepth 100000 in
theorem cal_X9_image : CalV yX9_image cX9_image 1 (some (.int)) 0 := ⟨⟨wa 752 rfl rfl, wa 753 rfl rfl, wa 1 rfl rfl, wa 754 rfl rfl⟩, ⟨by decide +kernel, by decide +kernel, by decide +kernel⟩⟩
set_option maxRecDepth 100000 in
theorem cal_X10_laysRow : CalV yX10_laysRow cX10_laysRow 5 none 3 := ⟨⟨wa 1206 rfl rfl, wap (q := (yX10_laysRow, 39)) 57 (by decide +kernel) (by decide +kernel), wa 12 rfl rfl, wa 1207 rfl rfl⟩, ⟨by decide +kernel, by decide +kernel, by decide +kernel⟩⟩
set_option maxRecDepth 100000 in
theorem cal_X10_lays : CalV yX10_lays cX10_lays 4 none 1 := ⟨⟨wa 1202 rfl rfl, wap (q := (yX10_lays, 39)) 56 (by decide +kernel) (by decide +kernel), wa 12 rfl rfl, wa 1203 rfl rfl⟩, ⟨by decide +kernel, by decide +kernel, by decide +kernel⟩⟩
set_option maxRecDepth 100000 in
theorem cal_X10_image : CalV yX10_image cX10_image 1 (some (.int)) 0 := ⟨⟨wa 1197 rfl rfl, wa 1198 rfl rfl, wa 12 rfl rfl, wa 1199 rfl rfl⟩, ⟨by decide +kernel, by decide +kernel, by decide +kernel⟩⟩
set_option maxRecDepth 100000 in
theorem cal_X9_undo : CalV yX9_undo cX9_undo 1 (some (.int)) 0 := ⟨⟨wa 767 rfl rfl, wa 768 rfl rfl, wa 1 rfl rfl, wa 769 rfl rfl⟩, ⟨by decide +kernel, by decide +kernel, by decide +kernel⟩⟩
set_option maxRecDepth 100000 in
theorem cal_X10_undo : CalV yX10_undo cX10_undo 1 (some (.int)) 0 := ⟨⟨wa 1209 rfl rfl, wa 1210 rfl rfl, wa 12 rfl rfl, wa 1211 rfl rfl⟩, ⟨by decide +kernel, by decide +kernel, by decide +kernel⟩⟩
set_option maxRecDepth 100000 in
theorem cal_X9_count : CalV yX9_count cX9_count 2 (some (.int)) 1 := ⟨⟨wa 771 rfl rfl, wa 772 rfl rfl, wa 1 rfl rfl, wa 773 rfl rfl⟩, ⟨by decide +kernel, by decide +kernel, by decide +kernel⟩⟩
set_option maxRecDepth 100000 in
theorem cal_X10_count : CalV yX10_count cX10_count 2 (some (.int)) 1 := ⟨⟨wa 1213 rfl rfl, wa 1214 rfl rfl, wa 12 rfl rfl, wa 1215 rfl rfl⟩, ⟨by decide +kernel, by decide +kernel, by decide +kernel⟩⟩
set_option maxRecDepth 100000 in
theorem cal_X7_become : CalV yX7_become cX7_become 3 none 2 := ⟨⟨wa 779 rfl rfl, wa 780 rfl rfl, wa 11 rfl rfl, wa 781 rfl rfl⟩, ⟨by decide +kernel, by decide +kernel, by decide +kernel⟩⟩
set_option maxRecDepth 100000 in
theorem cal_X9_tape : CalV yX9_tape cX9_tape 5 (some (.int)) 3 := ⟨⟨wa 775 rfl rfl, wa 776 rfl rfl, wa 1 rfl rfl, wa 777 rfl rfl⟩, ⟨by decide +kernel, by decide +kernel, by decide +kernel⟩⟩
set_option maxRecDepth 100000 in
theorem cal_X10_tape : CalV yX10_tape cX10_tape 5 (some (.int)) 3 := ⟨⟨wa 1217 rfl rfl, wa 1218 rfl rfl, wa 12 rfl rfl, wa 1219 rfl rfl⟩, ⟨by decide +kernel, by decide +kernel, by decide +kernel⟩⟩
set_option maxRecDepth 100000 in
theorem cal_X7_lowestBits : CalV yX7_lowestBits cX7_lowestBits 3 (some (.long)) 1 := ⟨⟨wa 795 rfl rfl, wap (q := (yX7_lowestBits, 3)) 27 (by decide +kernel) (by decide +kernel), wa 11 rfl rfl, wa 796 rfl rfl⟩, ⟨by decide +kernel, by decide +kernel, by decide +kernel⟩⟩
set_option maxRecDepth 100000 in
theorem cal_X7_set : CalV yX7_set cX7_set 4 none 2 := ⟨⟨wa 790 rfl rfl, wa 791 rfl rfl, wa 11 rfl rfl, wa 792 rfl rfl⟩, ⟨by decide +kernel, by decide +kernel, by decide +kernel⟩⟩
set_option maxRecDepth 100000 in
theorem cal_X9_item : CalV yX9_item cX9_item 6 (some (.int)) 3 := ⟨⟨wa 786 rfl rfl, wa 787 rfl rfl, wa 1 rfl rfl, wa 788 rfl rfl⟩, ⟨by decide +kernel, by decide +kernel, by decide +kernel⟩⟩
set_option maxRecDepth 100000 in
theorem cal_X10_held : CalS yX10_held cX10_held 3 (some (.long)) 2 := ⟨⟨wa 1225 rfl rfl, wa 12 rfl rfl, wa 1226 rfl rfl⟩, ⟨by decide +kernel, by decide +kernel, by decide +kernel⟩⟩
set_option maxRecDepth 100000 in
theorem cal_X10_item : CalV yX10_item cX10_item 5 (some (.int)) 3 := ⟨⟨wa 1221 rfl rfl, wa 1222 rfl rfl, wa 12 rfl rfl, wa 1223 rfl rfl⟩, ⟨by decide +kernel, by decide +kernel, by decide +kernel⟩⟩
set_option maxRecDepth 100000 in
theorem cal_X9_peek : CalV yX9_peek cX9_peek 4 (some (.long)) 2 := ⟨⟨wa 798 rfl rfl, wa 799 rfl rfl, wa 1 rfl rfl, wa 800 rfl rfl⟩, ⟨by decide +kernel, by decide +kernel, by decide +kernel⟩⟩
set_option maxRecDepth 100000 in
theorem cal_X10_peek : CalV yX10_peek cX10_peek 3 (some (.long)) 2 := ⟨⟨wa 1228 rfl rfl, wa 1229 rfl rfl, wa 12 rfl rfl, wa 1230 rfl rfl⟩, ⟨by decide +kernel, by decide +kernel, by decide +kernel⟩⟩
set_option maxRecDepth 100000 in
theorem cal_X7_hasAll : CalV yX7_hasAll cX7_hasAll 3 (some (.boolean)) 2 := ⟨⟨wa 806 rfl rfl, wa 807 rfl rfl, wa 11 rfl rfl, wa 808 rfl rfl⟩, ⟨by decide +kernel, by decide +kernel, by decide +kernel⟩⟩
set_option maxRecDepth 100000 in
theorem cal_X9_shift : CalV yX9_shift cX9_shift 8 (some (.int)) 5 := ⟨⟨wa 802 rfl rfl, wa 803 rfl rfl, wa 1 rfl rfl, wa 804 rfl rfl⟩, ⟨by decide +kernel, by decide +kernel, by decide +kernel⟩⟩
set_option maxRecDepth 100000 in
theorem cal_X10_areThere : CalV yX10_areThere cX10_areThere 4 (some (.boolean)) 3 := ⟨⟨wa 1237 rfl rfl, wap (q := (yX10_areThere, 39)) 58 (by decide +kernel) (by decide +kernel), wa 12 rfl rfl, wa 1238 rfl rfl⟩, ⟨by decide +kernel, by decide +kernel, by decide +kernel⟩⟩
set_option maxRecDepth 100000 in
theorem cal_X10_shift : CalV yX10_shift cX10_shift 8 (some (.int)) 5 := ⟨⟨wa 1232 rfl rfl, wa 1233 rfl rfl, wa 12 rfl rfl, wa 1234 rfl rfl⟩, ⟨by decide +kernel, by decide +kernel, by decide +kernel⟩⟩
