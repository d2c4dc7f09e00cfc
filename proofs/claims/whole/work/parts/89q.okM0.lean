def rmX10_init : Room := { frames := 1, cells := 24, slots := 35969, locals := 12 }
set_option maxHeartbeats 4000000 in
set_option maxRecDepth 100000 in
theorem okX10_init (E : Ev) (l : Launch) (a0 : Nat) (h0 : Mem) : AMet E l yX10_init cX10_init 1 none rmX10_init [rf E a0] h0 rvV (fX10_init a0 h0) := by
  refine am_intro (plainFor_of_name (by decide +kernel)) (Nat.le_of_ble_eq_true rfl) (fun K hKl C hr hnm hz0 => ?_)
  replace C : CxOK K E RX10 cX10_init 1 := C
  have hE : E.1 + 1 ≤ (kS K).heap.size := by omega
  unfold fX10_init
  show Aw K E _ _ _ _ _ 0 [(0, rf E a0)] [] h0 _
  refine aw_aload_n (pc := 0) C dX10_init_0 rfl 0 rfl ?_
  refine aw_objInit (pc := 1) C ml_X10_3 oi_1 oi_2 dX10_init_1 (Nat.le_of_ble_eq_true rfl) (Nat.le_of_ble_eq_true rfl) ?_
  refine aw_aload_n (pc := 4) C dX10_init_4 rfl 0 rfl ?_
  refine aw_iconst (pc := 5) (v := 3) C dX10_init_5 (by decide) ?_
  refine aw_putI (pc := 6) C fw_X10_9 rfl rfl dX10_init_6 (fun h1 eh1 => ?_)
  refine aw_aload_n (pc := 9) C dX10_init_9 rfl 0 rfl ?_
  refine aw_iconst (pc := 10) (v := 5) C dX10_init_10 (by decide) ?_
  refine aw_newAJ (pc := 11) (cap := 5) C ac_J hE (Nat.le_of_ble_eq_true rfl) (Nat.le_of_ble_eq_true rfl) (Nat.le_of_ble_eq_true rfl) dX10_init_11 (fun v2 h3 ev2 eh3 => ?_)
  refine aw_putR (pc := 13) C hnm ff_X10_15 rfl rfl dX10_init_13 (fun h4 eh4 => ?_)
  refine aw_aload_n (pc := 16) C dX10_init_16 rfl 0 rfl ?_
  refine aw_iconst (pc := 17) (v := 1) C dX10_init_17 (by decide) ?_
  refine aw_putI (pc := 18) C fw_X10_19 rfl rfl dX10_init_18 (fun h5 eh5 => ?_)
  refine aw_aload_n (pc := 21) C dX10_init_21 rfl 0 rfl ?_
  refine aw_bipush (pc := 22) (v := 10) C dX10_init_22 (by decide) ?_
  refine aw_putI (pc := 24) C fw_X10_22 rfl rfl dX10_init_24 (fun h6 eh6 => ?_)
  refine aw_aload_n (pc := 27) C dX10_init_27 rfl 0 rfl ?_
  refine aw_bipush (pc := 28) (v := 12) C dX10_init_28 (by decide) ?_
  refine aw_newAI (pc := 30) (cap := 12) C ac_I hE (Nat.le_of_ble_eq_true rfl) (Nat.le_of_ble_eq_true rfl) (Nat.le_of_ble_eq_true rfl) dX10_init_30 (fun v7 h8 ev7 eh8 => ?_)
  refine aw_putR (pc := 32) C hnm ff_X10_25 rfl rfl dX10_init_32 (fun h9 eh9 => ?_)
  refine aw_aload_n (pc := 35) C dX10_init_35 rfl 0 rfl ?_
  refine aw_bipush (pc := 36) (v := 16) C dX10_init_36 (by decide) ?_
  refine aw_newAI (pc := 38) (cap := 16) C ac_I hE (Nat.le_of_ble_eq_true rfl) (Nat.le_of_ble_eq_true rfl) (Nat.le_of_ble_eq_true rfl) dX10_init_38 (fun v10 h11 ev10 eh11 => ?_)
  refine aw_putR (pc := 40) C hnm ff_X10_29 rfl rfl dX10_init_40 (fun h12 eh12 => ?_)
  refine aw_aload_n (pc := 43) C dX10_init_43 rfl 0 rfl ?_
  refine aw_bipush (pc := 44) (v := 16) C dX10_init_44 (by decide) ?_
  refine aw_newAI (pc := 46) (cap := 16) C ac_I hE (Nat.le_of_ble_eq_true rfl) (Nat.le_of_ble_eq_true rfl) (Nat.le_of_ble_eq_true rfl) dX10_init_46 (fun v13 h14 ev13 eh14 => ?_)
  refine aw_putR (pc := 48) C hnm ff_X10_32 rfl rfl dX10_init_48 (fun h15 eh15 => ?_)
  refine aw_aload_n (pc := 51) C dX10_init_51 rfl 0 rfl ?_
  refine aw_iconst (pc := 52) (v := 5) C dX10_init_52 (by decide) ?_
  refine aw_newAJ (pc := 53) (cap := 5) C ac_J hE (Nat.le_of_ble_eq_true rfl) (Nat.le_of_ble_eq_true rfl) (Nat.le_of_ble_eq_true rfl) dX10_init_53 (fun v16 h17 ev16 eh17 => ?_)
  refine aw_putR (pc := 55) C hnm ff_X10_35 rfl rfl dX10_init_55 (fun h18 eh18 => ?_)
  refine aw_aload_n (pc := 58) C dX10_init_58 rfl 0 rfl ?_
  refine aw_iconst (pc := 59) (v := 5) C dX10_init_59 (by decide) ?_
  refine aw_newAJ (pc := 60) (cap := 5) C ac_J hE (Nat.le_of_ble_eq_true rfl) (Nat.le_of_ble_eq_true rfl) (Nat.le_of_ble_eq_true rfl) dX10_init_60 (fun v19 h20 ev19 eh20 => ?_)
  refine aw_putR (pc := 62) C hnm ff_X10_38 rfl rfl dX10_init_62 (fun h21 eh21 => ?_)
  refine aw_aload_n (pc := 65) C dX10_init_65 rfl 0 rfl ?_
  refine aw_sipush (pc := 66) (v := 13122) C dX10_init_66 (by decide) ?_
  refine aw_newAI (pc := 69) (cap := 13122) C ac_I hE (Nat.le_of_ble_eq_true rfl) (Nat.le_of_ble_eq_true rfl) (Nat.le_of_ble_eq_true rfl) dX10_init_69 (fun v22 h23 ev22 eh23 => ?_)
  refine aw_putR (pc := 71) C hnm ff_X10_41 rfl rfl dX10_init_71 (fun h24 eh24 => ?_)
  refine aw_aload_n (pc := 74) C dX10_init_74 rfl 0 rfl ?_
  refine aw_sipush (pc := 75) (v := 2500) C dX10_init_75 (by decide) ?_
  refine aw_newAI (pc := 78) (cap := 2500) C ac_I hE (Nat.le_of_ble_eq_true rfl) (Nat.le_of_ble_eq_true rfl) (Nat.le_of_ble_eq_true rfl) dX10_init_78 (fun v25 h26 ev25 eh26 => ?_)
  refine aw_putR (pc := 80) C hnm ff_X10_44 rfl rfl dX10_init_80 (fun h27 eh27 => ?_)
  refine aw_aload_n (pc := 83) C dX10_init_83 rfl 0 rfl ?_
  refine aw_sipush (pc := 84) (v := 6561) C dX10_init_84 (by decide) ?_
  refine aw_newAI (pc := 87) (cap := 6561) C ac_I hE (Nat.le_of_ble_eq_true rfl) (Nat.le_of_ble_eq_true rfl) (Nat.le_of_ble_eq_true rfl) dX10_init_87 (fun v28 h29 ev28 eh29 => ?_)
  refine aw_putR (pc := 89) C hnm ff_X10_47 rfl rfl dX10_init_89 (fun h30 eh30 => ?_)
  refine aw_aload_n (pc := 92) C dX10_init_92 rfl 0 rfl ?_
  refine aw_sipush (pc := 93) (v := 6561) C dX10_init_93 (by decide) ?_
  refine aw_newAI (pc := 96) (cap := 6561) C ac_I hE (Nat.le_of_ble_eq_true rfl) (Nat.le_of_ble_eq_true rfl) (Nat.le_of_ble_eq_true rfl) dX10_init_96 (fun v31 h32 ev31 eh32 => ?_)
  refine aw_putR (pc := 98) C hnm ff_X10_50 rfl rfl dX10_init_98 (fun h33 eh33 => ?_)
  refine aw_aload_n (pc := 101) C dX10_init_101 rfl 0 rfl ?_
  refine aw_sipush (pc := 102) (v := 6561) C dX10_init_102 (by decide) ?_
  refine aw_newAI (pc := 105) (cap := 6561) C ac_I hE (Nat.le_of_ble_eq_true rfl) (Nat.le_of_ble_eq_true rfl) (Nat.le_of_ble_eq_true rfl) dX10_init_105 (fun v34 h35 ev34 eh35 => ?_)
  refine aw_putR (pc := 107) C hnm ff_X10_53 rfl rfl dX10_init_107 (fun h36 eh36 => ?_)
  refine aw_aload_n (pc := 110) C dX10_init_110 rfl 0 rfl ?_
  refine aw_bipush (pc := 111) (v := 6) C dX10_init_111 (by decide) ?_
  refine aw_newAI (pc := 113) (cap := 6) C ac_I hE (Nat.le_of_ble_eq_true rfl) (Nat.le_of_ble_eq_true rfl) (Nat.le_of_ble_eq_true rfl) dX10_init_113 (fun v37 h38 ev37 eh38 => ?_)
  refine aw_dup (pc := 115) C rfl dX10_init_115 ?_
  refine aw_iconst (pc := 116) (v := 0) C dX10_init_116 (by decide) ?_
  refine aw_iconst (pc := 117) (v := 2) C dX10_init_117 (by decide) ?_
  refine aw_iastore (pc := 118) C dX10_init_118 (fun h39 eh39 => ?_)
  refine aw_dup (pc := 119) C rfl dX10_init_119 ?_
  refine aw_iconst (pc := 120) (v := 1) C dX10_init_120 (by decide) ?_
  refine aw_iconst (pc := 121) (v := 3) C dX10_init_121 (by decide) ?_
  refine aw_iastore (pc := 122) C dX10_init_122 (fun h40 eh40 => ?_)
  refine aw_dup (pc := 123) C rfl dX10_init_123 ?_
  refine aw_iconst (pc := 124) (v := 2) C dX10_init_124 (by decide) ?_
  refine aw_iconst (pc := 125) (v := 5) C dX10_init_125 (by decide) ?_
  refine aw_iastore (pc := 126) C dX10_init_126 (fun h41 eh41 => ?_)
  refine aw_dup (pc := 127) C rfl dX10_init_127 ?_
  refine aw_iconst (pc := 128) (v := 3) C dX10_init_128 (by decide) ?_
  refine aw_bipush (pc := 129) (v := 7) C dX10_init_129 (by decide) ?_
  refine aw_iastore (pc := 131) C dX10_init_131 (fun h42 eh42 => ?_)
  refine aw_dup (pc := 132) C rfl dX10_init_132 ?_
  refine aw_iconst (pc := 133) (v := 4) C dX10_init_133 (by decide) ?_
  refine aw_bipush (pc := 134) (v := 11) C dX10_init_134 (by decide) ?_
  refine aw_iastore (pc := 136) C dX10_init_136 (fun h43 eh43 => ?_)
  refine aw_dup (pc := 137) C rfl dX10_init_137 ?_
  refine aw_iconst (pc := 138) (v := 5) C dX10_init_138 (by decide) ?_
  refine aw_bipush (pc := 139) (v := 13) C dX10_init_139 (by decide) ?_
  refine aw_iastore (pc := 141) C dX10_init_141 (fun h44 eh44 => ?_)
  refine aw_putR (pc := 142) C hnm ff_X10_56 rfl rfl dX10_init_142 (fun h45 eh45 => ?_)
  refine aw_aload_n (pc := 145) C dX10_init_145 rfl 0 rfl ?_
  refine aw_bipush (pc := 146) (v := 13) C dX10_init_146 (by decide) ?_
  refine aw_newAZ (pc := 148) (cap := 13) C ac_Z hE (Nat.le_of_ble_eq_true rfl) (Nat.le_of_ble_eq_true rfl) (Nat.le_of_ble_eq_true rfl) dX10_init_148 (fun v46 h47 ev46 eh47 => ?_)
  refine aw_putR (pc := 150) C hnm ff_X10_59 rfl rfl dX10_init_150 (fun h48 eh48 => ?_)
  refine aw_aload_n (pc := 153) C dX10_init_153 rfl 0 rfl ?_
  refine aw_iconst (pc := 154) (v := 5) C dX10_init_154 (by decide) ?_
  refine aw_newAJ (pc := 155) (cap := 5) C ac_J hE (Nat.le_of_ble_eq_true rfl) (Nat.le_of_ble_eq_true rfl) (Nat.le_of_ble_eq_true rfl) dX10_init_155 (fun v49 h50 ev49 eh50 => ?_)
  refine aw_putR (pc := 157) C hnm ff_X10_63 rfl rfl dX10_init_157 (fun h51 eh51 => ?_)
  refine aw_aload_n (pc := 160) C dX10_init_160 rfl 0 rfl ?_
  refine aw_iconst (pc := 161) (v := 5) C dX10_init_161 (by decide) ?_
  refine aw_newAJ (pc := 162) (cap := 5) C ac_J hE (Nat.le_of_ble_eq_true rfl) (Nat.le_of_ble_eq_true rfl) (Nat.le_of_ble_eq_true rfl) dX10_init_162 (fun v52 h53 ev52 eh53 => ?_)
  refine aw_putR (pc := 164) C hnm ff_X10_66 rfl rfl dX10_init_164 (fun h54 eh54 => ?_)
  refine aw_aload_n (pc := 167) C dX10_init_167 rfl 0 rfl ?_
  refine aw_bipush (pc := 168) (v := 8) C dX10_init_168 (by decide) ?_
  refine aw_newAI (pc := 170) (cap := 8) C ac_I hE (Nat.le_of_ble_eq_true rfl) (Nat.le_of_ble_eq_true rfl) (Nat.le_of_ble_eq_true rfl) dX10_init_170 (fun v55 h56 ev55 eh56 => ?_)
  refine aw_putR (pc := 172) C hnm ff_X10_69 rfl rfl dX10_init_172 (fun h57 eh57 => ?_)
  refine aw_aload_n (pc := 175) C dX10_init_175 rfl 0 rfl ?_
  refine aw_bipush (pc := 176) (v := 100) C dX10_init_176 (by decide) ?_
  refine aw_newAI (pc := 178) (cap := 100) C ac_I hE (Nat.le_of_ble_eq_true rfl) (Nat.le_of_ble_eq_true rfl) (Nat.le_of_ble_eq_true rfl) dX10_init_178 (fun v58 h59 ev58 eh59 => ?_)
  refine aw_putR (pc := 180) C hnm ff_X10_72 rfl rfl dX10_init_180 (fun h60 eh60 => ?_)
  refine aw_aload_n (pc := 183) C dX10_init_183 rfl 0 rfl ?_
  refine aw_bipush (pc := 184) (v := 36) C dX10_init_184 (by decide) ?_
  refine aw_newAI (pc := 186) (cap := 36) C ac_I hE (Nat.le_of_ble_eq_true rfl) (Nat.le_of_ble_eq_true rfl) (Nat.le_of_ble_eq_true rfl) dX10_init_186 (fun v61 h62 ev61 eh62 => ?_)
  refine aw_putR (pc := 188) C hnm ff_X10_75 rfl rfl dX10_init_188 (fun h63 eh63 => ?_)
  refine aw_aload_n (pc := 191) C dX10_init_191 rfl 0 rfl ?_
  refine aw_iconst (pc := 192) (v := 5) C dX10_init_192 (by decide) ?_
  refine aw_newAJ (pc := 193) (cap := 5) C ac_J hE (Nat.le_of_ble_eq_true rfl) (Nat.le_of_ble_eq_true rfl) (Nat.le_of_ble_eq_true rfl) dX10_init_193 (fun v64 h65 ev64 eh65 => ?_)
  refine aw_putR (pc := 195) C hnm ff_X10_78 rfl rfl dX10_init_195 (fun h66 eh66 => ?_)
  refine aw_aload_n (pc := 198) C dX10_init_198 rfl 0 rfl ?_
  refine aw_bipush (pc := 199) (v := 6) C dX10_init_199 (by decide) ?_
  refine aw_newAI (pc := 201) (cap := 6) C ac_I hE (Nat.le_of_ble_eq_true rfl) (Nat.le_of_ble_eq_true rfl) (Nat.le_of_ble_eq_true rfl) dX10_init_201 (fun v67 h68 ev67 eh68 => ?_)
  refine aw_dup (pc := 203) C rfl dX10_init_203 ?_
  refine aw_iconst (pc := 204) (v := 0) C dX10_init_204 (by decide) ?_
  refine aw_iconst (pc := 205) (v := (-1)) C dX10_init_205 (by decide) ?_
  refine aw_iastore (pc := 206) C dX10_init_206 (fun h69 eh69 => ?_)
  refine aw_dup (pc := 207) C rfl dX10_init_207 ?_
  refine aw_iconst (pc := 208) (v := 1) C dX10_init_208 (by decide) ?_
  refine aw_iconst (pc := 209) (v := (-1)) C dX10_init_209 (by decide) ?_
  refine aw_iastore (pc := 210) C dX10_init_210 (fun h70 eh70 => ?_)
  refine aw_dup (pc := 211) C rfl dX10_init_211 ?_
  refine aw_iconst (pc := 212) (v := 2) C dX10_init_212 (by decide) ?_
  refine aw_iconst (pc := 213) (v := (-1)) C dX10_init_213 (by decide) ?_
  refine aw_iastore (pc := 214) C dX10_init_214 (fun h71 eh71 => ?_)
  refine aw_dup (pc := 215) C rfl dX10_init_215 ?_
  refine aw_iconst (pc := 216) (v := 3) C dX10_init_216 (by decide) ?_
  refine aw_iconst (pc := 217) (v := (-1)) C dX10_init_217 (by decide) ?_
  refine aw_iastore (pc := 218) C dX10_init_218 (fun h72 eh72 => ?_)
  refine aw_dup (pc := 219) C rfl dX10_init_219 ?_
  refine aw_iconst (pc := 220) (v := 4) C dX10_init_220 (by decide) ?_
  refine aw_iconst (pc := 221) (v := (-1)) C dX10_init_221 (by decide) ?_
  refine aw_iastore (pc := 222) C dX10_init_222 (fun h73 eh73 => ?_)
  refine aw_dup (pc := 223) C rfl dX10_init_223 ?_
  refine aw_iconst (pc := 224) (v := 5) C dX10_init_224 (by decide) ?_
  refine aw_iconst (pc := 225) (v := (-1)) C dX10_init_225 (by decide) ?_
  refine aw_iastore (pc := 226) C dX10_init_226 (fun h74 eh74 => ?_)
  refine aw_putR (pc := 227) C hnm ff_X10_81 rfl rfl dX10_init_227 (fun h75 eh75 => ?_)
  refine aw_aload_n (pc := 230) C dX10_init_230 rfl 0 rfl ?_
  refine aw_bipush (pc := 231) (v := 6) C dX10_init_231 (by decide) ?_
  refine aw_newAI (pc := 233) (cap := 6) C ac_I hE (Nat.le_of_ble_eq_true rfl) (Nat.le_of_ble_eq_true rfl) (Nat.le_of_ble_eq_true rfl) dX10_init_233 (fun v76 h77 ev76 eh77 => ?_)
  refine aw_putR (pc := 235) C hnm ff_X10_84 rfl rfl dX10_init_235 (fun h78 eh78 => ?_)
  refine aw_aload_n (pc := 238) C dX10_init_238 rfl 0 rfl ?_
  refine aw_sipush (pc := 239) (v := 360) C dX10_init_239 (by decide) ?_
  refine aw_newAJ (pc := 242) (cap := 360) C ac_J hE (Nat.le_of_ble_eq_true rfl) (Nat.le_of_ble_eq_true rfl) (Nat.le_of_ble_eq_true rfl) dX10_init_242 (fun v79 h80 ev79 eh80 => ?_)
  refine aw_putR (pc := 244) C hnm ff_X10_87 rfl rfl dX10_init_244 (fun h81 eh81 => ?_)
  refine aw_aload_n (pc := 247) C dX10_init_247 rfl 0 rfl ?_
  refine aw_iconst (pc := 248) (v := 5) C dX10_init_248 (by decide) ?_
  refine aw_newAJ (pc := 249) (cap := 5) C ac_J hE (Nat.le_of_ble_eq_true rfl) (Nat.le_of_ble_eq_true rfl) (Nat.le_of_ble_eq_true rfl) dX10_init_249 (fun v82 h83 ev82 eh83 => ?_)
  refine aw_putR (pc := 251) C hnm ff_X10_90 rfl rfl dX10_init_251 (fun h84 eh84 => ?_)
  refine aw_aload_n (pc := 254) C dX10_init_254 rfl 0 rfl ?_
  refine aw_bipush (pc := 255) (v := 50) C dX10_init_255 (by decide) ?_
  refine aw_newAI (pc := 257) (cap := 50) C ac_I hE (Nat.le_of_ble_eq_true rfl) (Nat.le_of_ble_eq_true rfl) (Nat.le_of_ble_eq_true rfl) dX10_init_257 (fun v85 h86 ev85 eh86 => ?_)
  refine aw_putR (pc := 259) C hnm ff_X10_93 rfl rfl dX10_init_259 (fun h87 eh87 => ?_)
  exact aw_return (pc := 262) C hr hz0 rfl dX10_init_262
def rmX10_in : Room := { frames := 0, cells := 0, slots := 0, locals := 0 }
set_option maxHeartbeats 4000000 in
set_option maxRecDepth 100000 in
theorem okX10_in (E : Ev) (l : Launch) (a0 : Int64) (a2 : Int64) (a4 : Int64) (h0 : Mem) : AMet E l yX10_in cX10_in 6 (some (.boolean)) rmX10_in [.long a0, .long a2, .long a4] h0 rvI (fX10_in a0 a2 a4 h0) := by
  refine am_intro (plainFor_of_name (by decide +kernel)) (Nat.le_of_ble_eq_true rfl) (fun K hKl C hr hnm hz0 => ?_)
  replace C : CxOK K E RX10 cX10_in 6 := C
  have hE : E.1 + 1 ≤ (kS K).heap.size := by omega
  unfold fX10_in
  show Aw K E _ _ _ _ _ 0 [(0, .long a0), (2, .long a2), (4, .long a4)] [] h0 _
  refine aw_lload_n (pc := 0) C dX10_in_0 rfl 0 rfl ?_
  refine aw_lload_n (pc := 1) C dX10_in_1 rfl 1 rfl ?_
  refine aw_lcmp (pc := 2) C dX10_in_2 ?_
  refine aw_if_lt (pc := 3) C 17 dX10_in_3 (by decide) (fun c2 => ?_) (fun c2 => ?_)
  · refine aw_iconst (pc := 17) (v := 0) C dX10_in_17 (by decide) ?_
    exact aw_ireturn (pc := 18) C hr rfl hz0 rfl dX10_in_18
  refine aw_lload_n (pc := 6) C dX10_in_6 rfl 0 rfl ?_
  refine aw_lload (pc := 7) C dX10_in_7 2 rfl ?_
  refine aw_lcmp (pc := 9) C dX10_in_9 ?_
  refine aw_if_gt (pc := 10) C 17 dX10_in_10 (by decide) (fun c1 => ?_) (fun c1 => ?_)
  · refine aw_iconst (pc := 17) (v := 0) C dX10_in_17 (by decide) ?_
    exact aw_ireturn (pc := 18) C hr rfl hz0 rfl dX10_in_18
  refine aw_iconst (pc := 13) (v := 1) C dX10_in_13 (by decide) ?_
  refine aw_goto (pc := 14) C 18 dX10_in_14 (by decide) ?_
  exact aw_ireturn (pc := 18) C hr rfl hz0 rfl dX10_in_18
def rmX10_degree : Room := { frames := 1, cells := 0, slots := 0, locals := 25 }
set_option maxHeartbeats 4000000 in
set_option maxRecDepth 100000 in
theorem okX10_degree (E : Ev) (l : Launch) (a0 : Nat) (a1 : Int32) (h0 : Mem) : AMet E l yX10_degree cX10_degree 4 (some (.int)) rmX10_degree [rf E a0, .int a1] h0 rvI (fX10_degree a0 a1 h0) := by
  refine am_intro (plainFor_of_name (by decide +kernel)) (Nat.le_of_ble_eq_true rfl) (fun K hKl C hr hnm hz0 => ?_)
  replace C : CxOK K E RX10 cX10_degree 4 := C
  have hE : E.1 + 1 ≤ (kS K).heap.size := by omega
  unfold fX10_degree
  show Aw K E _ _ _ _ _ 0 [(0, rf E a0), (1, .int a1)] [] h0 _
  refine aw_iload_n (pc := 0) C dX10_degree_0 rfl 1 rfl ?_
  refine aw_i2l (pc := 1) C dX10_degree_1 ?_
  refine aw_ldc2 (pc := 2) (v := 2) C kc_X10_100 dX10_degree_2 ?_
  refine aw_ldc2 (pc := 5) (v := 4) C kc_X10_102 dX10_degree_5 ?_
  refine aw_callSI (pc := 8) (R := rmX10_degree) (As := [.long a1.toInt64, .long 2, .long 4]) (rest := []) (st := [.long 4, .long 2, .long a1.toInt64]) (c' := 0) (s' := 0) C hE cal_X10_in ml_X10_96 rfl ⟨(Nat.le_of_ble_eq_true rfl), (Nat.le_of_ble_eq_true rfl)⟩ ⟨(Nat.le_of_ble_eq_true rfl), (Nat.le_of_ble_eq_true rfl)⟩ dX10_degree_8 (okX10_in E (kL K) a1.toInt64 2 4 h0) rfl (Nat.le_of_ble_eq_true rfl) rfl rfl (fun v2 h1 eh1 => ?_)
  refine aw_if_ne (pc := 11) C 17 dX10_degree_11 (by decide) (fun c13 => ?_) (fun c13 => ?_)
  · refine aw_bipush (pc := 14) (v := (-2)) C dX10_degree_14 (by decide) ?_
    exact aw_ireturn (pc := 16) C hr rfl hz0 rfl dX10_degree_16
  refine aw_aload_n (pc := 17) C dX10_degree_17 rfl 0 rfl ?_
  refine aw_getI (pc := 18) C fl_X10_9 dX10_degree_18 (fun v3 ev3 => ?_)
  refine aw_istore_n (pc := 21) (L' := [(2, .int v3), (0, rf E a0), (1, .int a1)]) C dX10_degree_21 rfl (by decide) rfl ?_
  refine aw_aload_n (pc := 22) C dX10_degree_22 rfl 1 rfl ?_
  refine aw_iload_n (pc := 23) C dX10_degree_23 rfl 2 rfl ?_
  refine aw_putI (pc := 24) C fw_X10_9 rfl rfl dX10_degree_24 (fun h4 eh4 => ?_)
  refine aw_iconst (pc := 27) (v := 0) C dX10_degree_27 (by decide) ?_
  refine aw_istore_n (pc := 28) (L' := [(3, .int 0), (2, .int v3), (0, rf E a0), (1, .int a1)]) C dX10_degree_28 rfl (by decide) rfl ?_
  refine aw_sub (L' := [(0, rf E a0), (2, .int v3), (3, .int 0)]) [2, 1, 0] rfl ?_
  refine aw_loop (pc := 29) (σ := Int32 × Mem) (fun s => [(0, rf E a0), (2, .int v3), (3, .int s.1)]) (fun s => s.2) _ (fun k7 ih8 s => ?_) _ _
  obtain ⟨v5, h6⟩ := s
  show Aw K E _ _ _ _ _ 29 [(0, rf E a0), (2, .int v3), (3, .int v5)] [] h6 _
  refine aw_iload_n (pc := 29) C dX10_degree_29 rfl 2 rfl ?_
  refine aw_iconst (pc := 30) (v := 5) C dX10_degree_30 (by decide) ?_
  refine aw_icmp_ge (pc := 31) C 47 dX10_degree_31 (by decide) (fun c12 => ?_) (fun c12 => ?_)
  · refine aw_iload_n (pc := 47) C dX10_degree_47 rfl 1 rfl ?_
    exact aw_ireturn (pc := 48) C hr rfl hz0 rfl dX10_degree_48
  refine aw_aload_n (pc := 34) C dX10_degree_34 rfl 0 rfl ?_
  refine aw_getR (pc := 35) C fl_X10_15 dX10_degree_35 (fun v9 ev9 => ?_)
  refine aw_iload_n (pc := 38) C dX10_degree_38 rfl 2 rfl ?_
  refine aw_lconst (pc := 39) (v := 0) C dX10_degree_39 (by decide) ?_
  refine aw_lastore (pc := 40) C dX10_degree_40 (fun h10 eh10 => ?_)
  refine aw_iincN (pc := 41) (L1 := [(0, rf E a0), (2, .int v3)]) (k := 1) C dX10_degree_41 2 rfl (by decide) (by decide) rfl (fun v11 ev11 => ?_)
  refine aw_goto (pc := 44) C 29 dX10_degree_44 (by decide) ?_
  exact aw_sub (L' := [(0, rf E a0), (2, .int v3), (3, .int v11)]) [1, 2, 0] rfl (ih8 (v11, h10))
def rmX10_isNumber : Room := { frames := 1, cells := 0, slots := 0, locals := 25 }
set_option maxHeartbeats 4000000 in
set_option maxRecDepth 100000 in
theorem okX10_isNumber (E : Ev) (l : Launch) (a0 : Nat) (a1 : Int32) (h0 : Mem) : AMet E l yX10_isNumber cX10_isNumber 2 (some (.boolean)) rmX10_isNumber [rf E a0, .int a1] h0 rvI (fX10_isNumber a0 a1 h0) := by
  refine am_intro (plainFor_of_name (by decide +kernel)) (Nat.le_of_ble_eq_true rfl) (fun K hKl C hr hnm hz0 => ?_)
  replace C : CxOK K E RX10 cX10_isNumber 2 := C
  have hE : E.1 + 1 ≤ (kS K).heap.size := by omega
  unfold fX10_isNumber
  show Aw K E _ _ _ _ _ 0 [(0, rf E a0), (1, .int a1)] [] h0 _
  refine aw_iload_n (pc := 0) C dX10_isNumber_0 rfl 1 rfl ?_
  refine aw_i2l (pc := 1) C dX10_isNumber_1 ?_
  refine aw_lconst (pc := 2) (v := 0) C dX10_isNumber_2 (by decide) ?_
  refine aw_aload_n (pc := 3) C dX10_isNumber_3 rfl 0 rfl ?_
  refine aw_getI (pc := 4) C fl_X10_9 dX10_isNumber_4 (fun v1 ev1 => ?_)
  refine aw_i2l (pc := 7) C dX10_isNumber_7 ?_
  refine aw_callSI (pc := 8) (R := rmX10_isNumber) (As := [.long a1.toInt64, .long 0, .long v1.toInt64]) (rest := []) (st := [.long v1.toInt64, .long 0, .long a1.toInt64]) (c' := 0) (s' := 0) C hE cal_X10_in ml_X10_96 rfl ⟨(Nat.le_of_ble_eq_true rfl), (Nat.le_of_ble_eq_true rfl)⟩ ⟨(Nat.le_of_ble_eq_true rfl), (Nat.le_of_ble_eq_true rfl)⟩ dX10_isNumber_8 (okX10_in E (kL K) a1.toInt64 0 v1.toInt64 h0) rfl (Nat.le_of_ble_eq_true rfl) rfl rfl (fun v3 h2 eh2 => ?_)
  exact aw_zreturn (pc := 11) C hr hz0 rfl dX10_isNumber_11
def rmX10_number : Room := { frames := 2, cells := 0, slots := 0, locals := 46 }
set_option maxHeartbeats 4000000 in
set_option maxRecDepth 100000 in
theorem okX10_number (E : Ev) (l : Launch) (a0 : Nat) (a1 : Int32) (a2 : Int32) (h0 : Mem) : AMet E l yX10_number cX10_number 4 (some (.int)) rmX10_number [rf E a0, .int a1, .int a2] h0 rvI (fX10_number a0 a1 a2 h0) := by
  refine am_intro (plainFor_of_name (by decide +kernel)) (Nat.le_of_ble_eq_true rfl) (fun K hKl C hr hnm hz0 => ?_)
  replace C : CxOK K E RX10 cX10_number 4 := C
  have hE : E.1 + 1 ≤ (kS K).heap.size := by omega
  unfold fX10_number
  show Aw K E _ _ _ _ _ 0 [(0, rf E a0), (1, .int a1), (2, .int a2)] [] h0 _
  refine aw_aload_n (pc := 0) C dX10_number_0 rfl 0 rfl ?_
  refine aw_iload_n (pc := 1) C dX10_number_1 rfl 1 rfl ?_
  refine aw_callVI (pc := 2) (R := rmX10_number) (c := 10) (As := [.int a1]) (rest := []) (st := [.int a1, rf E a0]) (c' := 0) (s' := 0) C hE rfl (by decide) cal_X10_isNumber ml_X10_104 rfl ⟨(Nat.le_of_ble_eq_true rfl), (Nat.le_of_ble_eq_true rfl)⟩ ⟨(Nat.le_of_ble_eq_true rfl), (Nat.le_of_ble_eq_true rfl)⟩ dX10_number_2 (okX10_isNumber E (kL K) a0 a1 h0) rfl (Nat.le_of_ble_eq_true rfl) rfl rfl (fun v2 h1 eh1 => ?_)
  refine aw_if_ne (pc := 5) C 10 dX10_number_5 (by decide) (fun c11 => ?_) (fun c11 => ?_)
  · refine aw_iconst (pc := 8) (v := (-1)) C dX10_number_8 (by decide) ?_
    exact aw_ireturn (pc := 9) C hr rfl hz0 rfl dX10_number_9
  refine aw_iload_n (pc := 10) C dX10_number_10 rfl 2 rfl ?_
  refine aw_i2l (pc := 11) C dX10_number_11 ?_
  refine aw_ldc2 (pc := 12) (v := (-99)) C kc_X10_108 dX10_number_12 ?_
  refine aw_ldc2 (pc := 15) (v := 99) C kc_X10_110 dX10_number_15 ?_
  refine aw_callSI (pc := 18) (R := rmX10_number) (As := [.long a2.toInt64, .long (-99), .long 99]) (rest := []) (st := [.long 99, .long (-99), .long a2.toInt64]) (c' := 0) (s' := 0) C hE cal_X10_in ml_X10_96 rfl ⟨(Nat.le_of_ble_eq_true rfl), (Nat.le_of_ble_eq_true rfl)⟩ ⟨(Nat.le_of_ble_eq_true rfl), (Nat.le_of_ble_eq_true rfl)⟩ dX10_number_18 (okX10_in E (kL K) a2.toInt64 (-99) 99 h1) rfl (Nat.le_of_ble_eq_true rfl) rfl rfl (fun v4 h3 eh3 => ?_)
  refine aw_if_ne (pc := 21) C 27 dX10_number_21 (by decide) (fun c10 => ?_) (fun c10 => ?_)
  · refine aw_bipush (pc := 24) (v := (-2)) C dX10_number_24 (by decide) ?_
    exact aw_ireturn (pc := 26) C hr rfl hz0 rfl dX10_number_26
  refine aw_aload_n (pc := 27) C dX10_number_27 rfl 0 rfl ?_
  refine aw_getR (pc := 28) C fl_X10_15 dX10_number_28 (fun v5 ev5 => ?_)
  refine aw_iload_n (pc := 31) C dX10_number_31 rfl 1 rfl ?_
  refine aw_laload (pc := 32) C dX10_number_32 (fun v6 ev6 => ?_)
  refine aw_l2i (pc := 33) C dX10_number_33 ?_
  refine aw_nmI (pc := 34) (fun v7 ev7 => ?_)
  refine aw_istore_n (pc := 34) (L' := [(3, .int v7), (0, rf E a0), (1, .int a1), (2, .int a2)]) C dX10_number_34 rfl (by decide) rfl ?_
  refine aw_aload_n (pc := 35) C dX10_number_35 rfl 1 rfl ?_
  refine aw_getR (pc := 36) C fl_X10_15 dX10_number_36 (fun v8 ev8 => ?_)
  refine aw_iload_n (pc := 39) C dX10_number_39 rfl 2 rfl ?_
  refine aw_iload_n (pc := 40) C dX10_number_40 rfl 3 rfl ?_
  refine aw_i2l (pc := 41) C dX10_number_41 ?_
  refine aw_lastore (pc := 42) C dX10_number_42 (fun h9 eh9 => ?_)
  refine aw_iload_n (pc := 43) C dX10_number_43 rfl 0 rfl ?_
  refine aw_bipush (pc := 44) (v := 100) C dX10_number_44 (by decide) ?_
  refine aw_iadd (pc := 46) C dX10_number_46 ?_
  exact aw_ireturn (pc := 47) C hr rfl hz0 rfl dX10_number_47
def rmX10_equal : Room := { frames := 1, cells := 0, slots := 0, locals := 25 }
set_option maxHeartbeats 4000000 in
set_option maxRecDepth 100000 in
theorem okX10_equal (E : Ev) (l : Launch) (a0 : Nat) (a1 : Int32) (h0 : Mem) : AMet E l yX10_equal cX10_equal 3 (some (.int)) rmX10_equal [rf E a0, .int a1] h0 rvI (fX10_equal a0 a1 h0) := by
  refine am_intro (plainFor_of_name (by decide +kernel)) (Nat.le_of_ble_eq_true rfl) (fun K hKl C hr hnm hz0 => ?_)
  replace C : CxOK K E RX10 cX10_equal 3 := C
  have hE : E.1 + 1 ≤ (kS K).heap.size := by omega
  unfold fX10_equal
  show Aw K E _ _ _ _ _ 0 [(0, rf E a0), (1, .int a1)] [] h0 _
  refine aw_iload_n (pc := 0) C dX10_equal_0 rfl 1 rfl ?_
  refine aw_i2l (pc := 1) C dX10_equal_1 ?_
  refine aw_ldc2 (pc := 2) (v := (-9999)) C kc_X10_112 dX10_equal_2 ?_
  refine aw_ldc2 (pc := 5) (v := 9999) C kc_X10_114 dX10_equal_5 ?_
  refine aw_callSI (pc := 8) (R := rmX10_equal) (As := [.long a1.toInt64, .long (-9999), .long 9999]) (rest := []) (st := [.long 9999, .long (-9999), .long a1.toInt64]) (c' := 0) (s' := 0) C hE cal_X10_in ml_X10_96 rfl ⟨(Nat.le_of_ble_eq_true rfl), (Nat.le_of_ble_eq_true rfl)⟩ ⟨(Nat.le_of_ble_eq_true rfl), (Nat.le_of_ble_eq_true rfl)⟩ dX10_equal_8 (okX10_in E (kL K) a1.toInt64 (-9999) 9999 h0) rfl (Nat.le_of_ble_eq_true rfl) rfl rfl (fun v2 h1 eh1 => ?_)
  refine aw_if_ne (pc := 11) C 17 dX10_equal_11 (by decide) (fun c5 => ?_) (fun c5 => ?_)
  · refine aw_bipush (pc := 14) (v := (-2)) C dX10_equal_14 (by decide) ?_
    exact aw_ireturn (pc := 16) C hr rfl hz0 rfl dX10_equal_16
  refine aw_aload_n (pc := 17) C dX10_equal_17 rfl 0 rfl ?_
  refine aw_getI (pc := 18) C fl_X10_19 dX10_equal_18 (fun v3 ev3 => ?_)
  refine aw_istore_n (pc := 21) (L' := [(2, .int v3), (0, rf E a0), (1, .int a1)]) C dX10_equal_21 rfl (by decide) rfl ?_
  refine aw_aload_n (pc := 22) C dX10_equal_22 rfl 1 rfl ?_
  refine aw_iload_n (pc := 23) C dX10_equal_23 rfl 2 rfl ?_
  refine aw_putI (pc := 24) C fw_X10_19 rfl rfl dX10_equal_24 (fun h4 eh4 => ?_)
  refine aw_iload_n (pc := 27) C dX10_equal_27 rfl 0 rfl ?_
  refine aw_sipush (pc := 28) (v := 10000) C dX10_equal_28 (by decide) ?_
  refine aw_iadd (pc := 31) C dX10_equal_31 ?_
  exact aw_ireturn (pc := 32) C hr rfl hz0 rfl dX10_equal_32
def rmX10_window : Room := { frames := 1, cells := 0, slots := 0, locals := 25 }
set_option maxHeartbeats 4000000 in
set_option maxRecDepth 100000 in
theorem okX10_window (E : Ev) (l : Launch) (a0 : Nat) (a1 : Int32) (h0 : Mem) : AMet E l yX10_window cX10_window 3 (some (.int)) rmX10_window [rf E a0, .int a1] h0 rvI (fX10_window a0 a1 h0) := by
  refine am_intro (plainFor_of_name (by decide +kernel)) (Nat.le_of_ble_eq_true rfl) (fun K hKl C hr hnm hz0 => ?_)
  replace C : CxOK K E RX10 cX10_window 3 := C
  have hE : E.1 + 1 ≤ (kS K).heap.size := by omega
  unfold fX10_window
  show Aw K E _ _ _ _ _ 0 [(0, rf E a0), (1, .int a1)] [] h0 _
  refine aw_iload_n (pc := 0) C dX10_window_0 rfl 1 rfl ?_
  refine aw_i2l (pc := 1) C dX10_window_1 ?_
  refine aw_lconst (pc := 2) (v := 1) C dX10_window_2 (by decide) ?_
  refine aw_ldc2 (pc := 3) (v := 40) C kc_X10_116 dX10_window_3 ?_
  refine aw_callSI (pc := 6) (R := rmX10_window) (As := [.long a1.toInt64, .long 1, .long 40]) (rest := []) (st := [.long 40, .long 1, .long a1.toInt64]) (c' := 0) (s' := 0) C hE cal_X10_in ml_X10_96 rfl ⟨(Nat.le_of_ble_eq_true rfl), (Nat.le_of_ble_eq_true rfl)⟩ ⟨(Nat.le_of_ble_eq_true rfl), (Nat.le_of_ble_eq_true rfl)⟩ dX10_window_6 (okX10_in E (kL K) a1.toInt64 1 40 h0) rfl (Nat.le_of_ble_eq_true rfl) rfl rfl (fun v2 h1 eh1 => ?_)
  refine aw_if_ne (pc := 9) C 15 dX10_window_9 (by decide) (fun c5 => ?_) (fun c5 => ?_)
  · refine aw_bipush (pc := 12) (v := (-2)) C dX10_window_12 (by decide) ?_
    exact aw_ireturn (pc := 14) C hr rfl hz0 rfl dX10_window_14
  refine aw_aload_n (pc := 15) C dX10_window_15 rfl 0 rfl ?_
  refine aw_getI (pc := 16) C fl_X10_22 dX10_window_16 (fun v3 ev3 => ?_)
  refine aw_istore_n (pc := 19) (L' := [(2, .int v3), (0, rf E a0), (1, .int a1)]) C dX10_window_19 rfl (by decide) rfl ?_
  refine aw_aload_n (pc := 20) C dX10_window_20 rfl 1 rfl ?_
  refine aw_iload_n (pc := 21) C dX10_window_21 rfl 2 rfl ?_
  refine aw_putI (pc := 22) C fw_X10_22 rfl rfl dX10_window_22 (fun h4 eh4 => ?_)
  refine aw_iload_n (pc := 25) C dX10_window_25 rfl 0 rfl ?_
  exact aw_ireturn (pc := 26) C hr rfl hz0 rfl dX10_window_26
def rmX10_multiplies : Room := { frames := 0, cells := 0, slots := 0, locals := 0 }
set_option maxHeartbeats 4000000 in
set_option maxRecDepth 100000 in
theorem okX10_multiplies (E : Ev) (l : Launch) (a0 : Nat) (a1 : Int64) (a3 : Int64) (h0 : Mem) : AMet E l yX10_multiplies cX10_multiplies 6 none rmX10_multiplies [rf E a0, .long a1, .long a3] h0 rvV (fX10_multiplies a0 a1 a3 h0) := by
  refine am_intro (plainFor_of_name (by decide +kernel)) (Nat.le_of_ble_eq_true rfl) (fun K hKl C hr hnm hz0 => ?_)
  replace C : CxOK K E RX10 cX10_multiplies 6 := C
  have hE : E.1 + 1 ≤ (kS K).heap.size := by omega
  unfold fX10_multiplies
  show Aw K E _ _ _ _ _ 0 [(0, rf E a0), (1, .long a1), (3, .long a3)] [] h0 _
  refine aw_iconst (pc := 0) (v := 4) C dX10_multiplies_0 (by decide) ?_
  refine aw_istore (pc := 1) (L' := [(5, .int 4), (0, rf E a0), (1, .long a1), (3, .long a3)]) C dX10_multiplies_1 (by decide) rfl ?_
  refine aw_sub (L' := [(0, rf E a0), (1, .long a1), (3, .long a3), (5, .int 4)]) [1, 2, 3, 0] rfl ?_
  refine aw_loop (pc := 3) (σ := Int32 × Mem) (fun s => [(0, rf E a0), (1, .long a1), (3, .long a3), (5, .int s.1)]) (fun s => s.2) _ (fun k3 ih4 s => ?_) _ _
  obtain ⟨v1, h2⟩ := s
  show Aw K E _ _ _ _ _ 3 [(0, rf E a0), (1, .long a1), (3, .long a3), (5, .int v1)] [] h2 _
  refine aw_iload (pc := 3) C dX10_multiplies_3 3 rfl ?_
  refine aw_if_lt (pc := 5) C 51 dX10_multiplies_5 (by decide) (fun c15 => ?_) (fun c15 => ?_)
  · exact aw_return (pc := 51) C hr hz0 rfl dX10_multiplies_51
  refine aw_aload_n (pc := 8) C dX10_multiplies_8 rfl 0 rfl ?_
  refine aw_getR (pc := 9) C fl_X10_38 dX10_multiplies_9 (fun v5 ev5 => ?_)
  refine aw_iload (pc := 12) C dX10_multiplies_12 3 rfl ?_
  refine aw_lload_n (pc := 14) C dX10_multiplies_14 rfl 1 rfl ?_
  refine aw_aload_n (pc := 15) C dX10_multiplies_15 rfl 0 rfl ?_
  refine aw_getR (pc := 16) C fl_X10_38 dX10_multiplies_16 (fun v6 ev6 => ?_)
  refine aw_iload (pc := 19) C dX10_multiplies_19 3 rfl ?_
  refine aw_laload (pc := 21) C dX10_multiplies_21 (fun v7 ev7 => ?_)
  refine aw_lmul (pc := 22) C dX10_multiplies_22 ?_
  refine aw_iload (pc := 23) C dX10_multiplies_23 3 rfl ?_
  refine aw_if_le (pc := 25) C 42 dX10_multiplies_25 (by decide) (fun c14 => ?_) (fun c14 => ?_)
  · refine aw_lconst (pc := 42) (v := 0) C dX10_multiplies_42 (by decide) ?_
    refine aw_ladd (pc := 43) C dX10_multiplies_43 ?_
    refine aw_lastore (pc := 44) C dX10_multiplies_44 (fun h12 eh12 => ?_)
    refine aw_iincN (pc := 45) (L1 := [(0, rf E a0), (1, .long a1), (3, .long a3)]) (k := (-1)) C dX10_multiplies_45 3 rfl (by decide) (by decide) rfl (fun v13 ev13 => ?_)
    refine aw_goto (pc := 48) C 3 dX10_multiplies_48 (by decide) ?_
    exact aw_sub (L' := [(0, rf E a0), (1, .long a1), (3, .long a3), (5, .int v13)]) [1, 2, 3, 0] rfl (ih4 (v13, h12))
  refine aw_lload_n (pc := 28) C dX10_multiplies_28 rfl 2 rfl ?_
  refine aw_aload_n (pc := 29) C dX10_multiplies_29 rfl 0 rfl ?_
  refine aw_getR (pc := 30) C fl_X10_38 dX10_multiplies_30 (fun v8 ev8 => ?_)
  refine aw_iload (pc := 33) C dX10_multiplies_33 3 rfl ?_
  refine aw_iconst (pc := 35) (v := 1) C dX10_multiplies_35 (by decide) ?_
  refine aw_isub (pc := 36) C dX10_multiplies_36 ?_
  refine aw_laload (pc := 37) C dX10_multiplies_37 (fun v9 ev9 => ?_)
  refine aw_lmul (pc := 38) C dX10_multiplies_38 ?_
  refine aw_goto (pc := 39) C 43 dX10_multiplies_39 (by decide) ?_
  refine aw_ladd (pc := 43) C dX10_multiplies_43 ?_
  refine aw_lastore (pc := 44) C dX10_multiplies_44 (fun h10 eh10 => ?_)
  refine aw_iincN (pc := 45) (L1 := [(0, rf E a0), (1, .long a1), (3, .long a3)]) (k := (-1)) C dX10_multiplies_45 3 rfl (by decide) (by decide) rfl (fun v11 ev11 => ?_)
  refine aw_goto (pc := 48) C 3 dX10_multiplies_48 (by decide) ?_
  exact aw_sub (L' := [(0, rf E a0), (1, .long a1), (3, .long a3), (5, .int v11)]) [1, 2, 3, 0] rfl (ih4 (v11, h10))
def rmX10_turns : Room := { frames := 1, cells := 0, slots := 0, locals := 25 }
set_option maxHeartbeats 4000000 in
set_option maxRecDepth 100000 in
theorem okX10_turns (E : Ev) (l : Launch) (a0 : Nat) (a1 : Int64) (a3 : Int64) (a5 : Int64) (a7 : Int64) (h0 : Mem) : AMet E l yX10_turns cX10_turns 11 none rmX10_turns [rf E a0, .long a1, .long a3, .long a5, .long a7] h0 rvV (fX10_turns a0 a1 a3 a5 a7 h0) := by
  refine am_intro (plainFor_of_name (by decide +kernel)) (Nat.le_of_ble_eq_true rfl) (fun K hKl C hr hnm hz0 => ?_)
  replace C : CxOK K E RX10 cX10_turns 11 := C
  have hE : E.1 + 1 ≤ (kS K).heap.size := by omega
  unfold fX10_turns
  show Aw K E _ _ _ _ _ 0 [(0, rf E a0), (1, .long a1), (3, .long a3), (5, .long a5), (7, .long a7)] [] h0 _
  refine aw_iconst (pc := 0) (v := 0) C dX10_turns_0 (by decide) ?_
  refine aw_istore (pc := 1) (L' := [(9, .int 0), (0, rf E a0), (1, .long a1), (3, .long a3), (5, .long a5), (7, .long a7)]) C dX10_turns_1 (by decide) rfl ?_
  refine aw_sub (L' := [(0, rf E a0), (1, .long a1), (3, .long a3), (5, .long a5), (7, .long a7), (9, .int 0)]) [1, 2, 3, 4, 5, 0] rfl ?_
  refine aw_loop (pc := 3) (σ := Int32 × Mem) (fun s => [(0, rf E a0), (1, .long a1), (3, .long a3), (5, .long a5), (7, .long a7), (9, .int s.1)]) (fun s => s.2) _ (fun k3 ih4 s => ?_) _ _
  obtain ⟨v1, h2⟩ := s
  show Aw K E _ _ _ _ _ 3 [(0, rf E a0), (1, .long a1), (3, .long a3), (5, .long a5), (7, .long a7), (9, .int v1)] [] h2 _
  refine aw_iload (pc := 3) C dX10_turns_3 5 rfl ?_
  refine aw_iconst (pc := 5) (v := 5) C dX10_turns_5 (by decide) ?_
  refine aw_icmp_ge (pc := 6) C 23 dX10_turns_6 (by decide) (fun c57 => ?_) (fun c57 => ?_)
  · refine aw_iconst (pc := 23) (v := 0) C dX10_turns_23 (by decide) ?_
    refine aw_istore (pc := 24) (L' := [(9, .int 0), (0, rf E a0), (1, .long a1), (3, .long a3), (5, .long a5), (7, .long a7)]) C dX10_turns_24 (by decide) rfl ?_
    refine aw_sub (L' := [(0, rf E a0), (1, .long a1), (3, .long a3), (5, .long a5), (7, .long a7), (9, .int 0)]) [1, 2, 3, 4, 5, 0] rfl ?_
    refine aw_loop (pc := 26) (σ := Int32 × Mem) (fun s => [(0, rf E a0), (1, .long a1), (3, .long a3), (5, .long a5), (7, .long a7), (9, .int s.1)]) (fun s => s.2) _ (fun k10 ih11 s => ?_) _ _
    obtain ⟨v8, h9⟩ := s
    show Aw K E _ _ _ _ _ 26 [(0, rf E a0), (1, .long a1), (3, .long a3), (5, .long a5), (7, .long a7), (9, .int v8)] [] h9 _
    refine aw_iload (pc := 26) C dX10_turns_26 5 rfl ?_
    refine aw_aload_n (pc := 28) C dX10_turns_28 rfl 0 rfl ?_
    refine aw_getI (pc := 29) C fl_X10_9 dX10_turns_29 (fun v12 ev12 => ?_)
    refine aw_icmp_gt (pc := 32) C 172 dX10_turns_32 (by decide) (fun c56 => ?_) (fun c56 => ?_)
    · exact aw_return (pc := 172) C hr hz0 rfl dX10_turns_172
    refine aw_iconst (pc := 35) (v := 0) C dX10_turns_35 (by decide) ?_
    refine aw_istore (pc := 36) (L' := [(10, .int 0), (0, rf E a0), (1, .long a1), (3, .long a3), (5, .long a5), (7, .long a7), (9, .int v8)]) C dX10_turns_36 (by decide) rfl ?_
    refine aw_sub (L' := [(0, rf E a0), (1, .long a1), (3, .long a3), (5, .long a5), (7, .long a7), (9, .int v8), (10, .int 0)]) [1, 2, 3, 4, 5, 6, 0] rfl ?_
    refine aw_loop (pc := 38) (σ := Int32 × Mem) (fun s => [(0, rf E a0), (1, .long a1), (3, .long a3), (5, .long a5), (7, .long a7), (9, .int v8), (10, .int s.1)]) (fun s => s.2) _ (fun k15 ih16 s => ?_) _ _
    obtain ⟨v13, h14⟩ := s
    show Aw K E _ _ _ _ _ 38 [(0, rf E a0), (1, .long a1), (3, .long a3), (5, .long a5), (7, .long a7), (9, .int v8), (10, .int v13)] [] h14 _
    refine aw_iload (pc := 38) C dX10_turns_38 6 rfl ?_
    refine aw_iconst (pc := 40) (v := 5) C dX10_turns_40 (by decide) ?_
    refine aw_icmp_ge (pc := 41) C 73 dX10_turns_41 (by decide) (fun c55 => ?_) (fun c55 => ?_)
    · refine aw_iconst (pc := 73) (v := 0) C dX10_turns_73 (by decide) ?_
      refine aw_istore (pc := 74) (L' := [(10, .int 0), (0, rf E a0), (1, .long a1), (3, .long a3), (5, .long a5), (7, .long a7), (9, .int v8)]) C dX10_turns_74 (by decide) rfl ?_
      refine aw_sub (L' := [(0, rf E a0), (1, .long a1), (3, .long a3), (5, .long a5), (7, .long a7), (9, .int v8), (10, .int 0)]) [1, 2, 3, 4, 5, 6, 0] rfl ?_
      refine aw_loop (pc := 76) (σ := Int32 × Mem) (fun s => [(0, rf E a0), (1, .long a1), (3, .long a3), (5, .long a5), (7, .long a7), (9, .int v8), (10, .int s.1)]) (fun s => s.2) _ (fun k27 ih28 s => ?_) _ _
      obtain ⟨v25, h26⟩ := s
      show Aw K E _ _ _ _ _ 76 [(0, rf E a0), (1, .long a1), (3, .long a3), (5, .long a5), (7, .long a7), (9, .int v8), (10, .int v25)] [] h26 _
      refine aw_iload (pc := 76) C dX10_turns_76 6 rfl ?_
      refine aw_aload_n (pc := 78) C dX10_turns_78 rfl 0 rfl ?_
      refine aw_getI (pc := 79) C fl_X10_9 dX10_turns_79 (fun v29 ev29 => ?_)
      refine aw_icmp_ge (pc := 82) C 131 dX10_turns_82 (by decide) (fun c54 => ?_) (fun c54 => ?_)
      · refine aw_iconst (pc := 131) (v := 0) C dX10_turns_131 (by decide) ?_
        refine aw_istore (pc := 132) (L' := [(10, .int 0), (0, rf E a0), (1, .long a1), (3, .long a3), (5, .long a5), (7, .long a7), (9, .int v8)]) C dX10_turns_132 (by decide) rfl ?_
        refine aw_sub (L' := [(0, rf E a0), (1, .long a1), (3, .long a3), (5, .long a5), (7, .long a7), (9, .int v8), (10, .int 0)]) [1, 2, 3, 4, 5, 6, 0] rfl ?_
        refine aw_loop (pc := 134) (σ := Int32 × Mem) (fun s => [(0, rf E a0), (1, .long a1), (3, .long a3), (5, .long a5), (7, .long a7), (9, .int v8), (10, .int s.1)]) (fun s => s.2) _ (fun k43 ih44 s => ?_) _ _
        obtain ⟨v41, h42⟩ := s
        show Aw K E _ _ _ _ _ 134 [(0, rf E a0), (1, .long a1), (3, .long a3), (5, .long a5), (7, .long a7), (9, .int v8), (10, .int v41)] [] h42 _
        refine aw_iload (pc := 134) C dX10_turns_134 6 rfl ?_
        refine aw_aload_n (pc := 136) C dX10_turns_136 rfl 0 rfl ?_
        refine aw_getI (pc := 137) C fl_X10_9 dX10_turns_137 (fun v45 ev45 => ?_)
        refine aw_icmp_gt (pc := 140) C 166 dX10_turns_140 (by decide) (fun c53 => ?_) (fun c53 => ?_)
        · refine aw_iincN (pc := 166) (L1 := [(0, rf E a0), (1, .long a1), (3, .long a3), (5, .long a5), (7, .long a7), (10, .int v41)]) (k := 1) C dX10_turns_166 5 rfl (by decide) (by decide) rfl (fun v52 ev52 => ?_)
          refine aw_goto (pc := 169) C 26 dX10_turns_169 (by decide) ?_
          exact aw_sub (L' := [(0, rf E a0), (1, .long a1), (3, .long a3), (5, .long a5), (7, .long a7), (9, .int v52)]) [1, 2, 3, 4, 5, 0] rfl (ih11 (v52, h42))
        refine aw_aload_n (pc := 143) C dX10_turns_143 rfl 0 rfl ?_
        refine aw_getR (pc := 144) C fl_X10_35 dX10_turns_144 (fun v46 ev46 => ?_)
        refine aw_iload (pc := 147) C dX10_turns_147 6 rfl ?_
        refine aw_dup2 (pc := 149) C rfl rfl dX10_turns_149 ?_
        refine aw_laload (pc := 150) C dX10_turns_150 (fun v47 ev47 => ?_)
        refine aw_aload_n (pc := 151) C dX10_turns_151 rfl 0 rfl ?_
        refine aw_getR (pc := 152) C fl_X10_38 dX10_turns_152 (fun v48 ev48 => ?_)
        refine aw_iload (pc := 155) C dX10_turns_155 6 rfl ?_
        refine aw_laload (pc := 157) C dX10_turns_157 (fun v49 ev49 => ?_)
        refine aw_ladd (pc := 158) C dX10_turns_158 ?_
        refine aw_lastore (pc := 159) C dX10_turns_159 (fun h50 eh50 => ?_)
        refine aw_iincN (pc := 160) (L1 := [(0, rf E a0), (1, .long a1), (3, .long a3), (5, .long a5), (7, .long a7), (9, .int v8)]) (k := 1) C dX10_turns_160 6 rfl (by decide) (by decide) rfl (fun v51 ev51 => ?_)
        refine aw_goto (pc := 163) C 134 dX10_turns_163 (by decide) ?_
        exact aw_sub (L' := [(0, rf E a0), (1, .long a1), (3, .long a3), (5, .long a5), (7, .long a7), (9, .int v8), (10, .int v51)]) [1, 2, 3, 4, 5, 6, 0] rfl (ih44 (v51, h50))
      refine aw_aload_n (pc := 85) C dX10_turns_85 rfl 0 rfl ?_
      refine aw_iload (pc := 86) C dX10_turns_86 6 rfl ?_
      refine aw_aload_n (pc := 88) C dX10_turns_88 rfl 0 rfl ?_
      refine aw_getI (pc := 89) C fl_X10_9 dX10_turns_89 (fun v30 ev30 => ?_)
      refine aw_iload (pc := 92) C dX10_turns_92 5 rfl ?_
      refine aw_isub (pc := 94) C dX10_turns_94 ?_
      refine aw_jn (σ := Int64) 104 (fun s => [(0, rf E a0), (1, .long a1), (3, .long a3), (5, .long a5), (7, .long a7), (9, .int v8), (10, .int v25)]) (fun s => [.long s, rf E a0]) (fun s => h26) (fun s => ?_) (fun k32 jk33 => ?_)
      · generalize s = v31
        show Aw K E _ _ _ _ _ 104 [(0, rf E a0), (1, .long a1), (3, .long a3), (5, .long a5), (7, .long a7), (9, .int v8), (10, .int v25)] [.long v31, rf E a0] h26 _
        refine aw_iload (pc := 104) C dX10_turns_104 6 rfl ?_
        refine aw_aload_n (pc := 106) C dX10_turns_106 rfl 0 rfl ?_
        refine aw_getI (pc := 107) C fl_X10_9 dX10_turns_107 (fun v34 ev34 => ?_)
        refine aw_iload (pc := 110) C dX10_turns_110 5 rfl ?_
        refine aw_isub (pc := 112) C dX10_turns_112 ?_
        refine aw_icmp_ge (pc := 113) C 120 dX10_turns_113 (by decide) (fun c39 => ?_) (fun c39 => ?_)
        · refine aw_lload (pc := 120) C dX10_turns_120 4 rfl ?_
          refine aw_callVV (pc := 122) (R := rmX10_turns) (c := 10) (As := [.long v31, .long a7]) (rest := []) (st := [.long a7, .long v31, rf E a0]) (c' := 0) (s' := 0) C hE rfl (by decide) cal_X10_multiplies ml_X10_122 rfl ⟨(Nat.le_of_ble_eq_true rfl), (Nat.le_of_ble_eq_true rfl)⟩ ⟨(Nat.le_of_ble_eq_true rfl), (Nat.le_of_ble_eq_true rfl)⟩ dX10_turns_122 (okX10_multiplies E (kL K) a0 v31 a7 h26) rfl (Nat.le_of_ble_eq_true rfl) rfl rfl (fun _u h37 eh37 => ?_)
          refine aw_iincN (pc := 125) (L1 := [(0, rf E a0), (1, .long a1), (3, .long a3), (5, .long a5), (7, .long a7), (9, .int v8)]) (k := 1) C dX10_turns_125 6 rfl (by decide) (by decide) rfl (fun v38 ev38 => ?_)
          refine aw_goto (pc := 128) C 76 dX10_turns_128 (by decide) ?_
          exact aw_sub (L' := [(0, rf E a0), (1, .long a1), (3, .long a3), (5, .long a5), (7, .long a7), (9, .int v8), (10, .int v38)]) [1, 2, 3, 4, 5, 6, 0] rfl (ih28 (v38, h37))
        refine aw_lload_n (pc := 116) C dX10_turns_116 rfl 2 rfl ?_
        refine aw_goto (pc := 117) C 122 dX10_turns_117 (by decide) ?_
        refine aw_callVV (pc := 122) (R := rmX10_turns) (c := 10) (As := [.long v31, .long a3]) (rest := []) (st := [.long a3, .long v31, rf E a0]) (c' := 0) (s' := 0) C hE rfl (by decide) cal_X10_multiplies ml_X10_122 rfl ⟨(Nat.le_of_ble_eq_true rfl), (Nat.le_of_ble_eq_true rfl)⟩ ⟨(Nat.le_of_ble_eq_true rfl), (Nat.le_of_ble_eq_true rfl)⟩ dX10_turns_122 (okX10_multiplies E (kL K) a0 v31 a3 h26) rfl (Nat.le_of_ble_eq_true rfl) rfl rfl (fun _u h35 eh35 => ?_)
        refine aw_iincN (pc := 125) (L1 := [(0, rf E a0), (1, .long a1), (3, .long a3), (5, .long a5), (7, .long a7), (9, .int v8)]) (k := 1) C dX10_turns_125 6 rfl (by decide) (by decide) rfl (fun v36 ev36 => ?_)
        refine aw_goto (pc := 128) C 76 dX10_turns_128 (by decide) ?_
        exact aw_sub (L' := [(0, rf E a0), (1, .long a1), (3, .long a3), (5, .long a5), (7, .long a7), (9, .int v8), (10, .int v36)]) [1, 2, 3, 4, 5, 6, 0] rfl (ih28 (v36, h35))
      refine aw_icmp_ge (pc := 95) C 102 dX10_turns_95 (by decide) (fun c40 => ?_) (fun c40 => ?_)
      · refine aw_lload (pc := 102) C dX10_turns_102 3 rfl ?_
        exact aw_sub (L' := [(0, rf E a0), (1, .long a1), (3, .long a3), (5, .long a5), (7, .long a7), (9, .int v8), (10, .int v25)]) [0, 1, 2, 3, 4, 5, 6] rfl (jk33 a5)
      refine aw_lload_n (pc := 98) C dX10_turns_98 rfl 1 rfl ?_
      refine aw_goto (pc := 99) C 104 dX10_turns_99 (by decide) ?_
      exact aw_sub (L' := [(0, rf E a0), (1, .long a1), (3, .long a3), (5, .long a5), (7, .long a7), (9, .int v8), (10, .int v25)]) [0, 1, 2, 3, 4, 5, 6] rfl (jk33 a1)
    refine aw_aload_n (pc := 44) C dX10_turns_44 rfl 0 rfl ?_
    refine aw_getR (pc := 45) C fl_X10_38 dX10_turns_45 (fun v17 ev17 => ?_)
    refine aw_iload (pc := 48) C dX10_turns_48 6 rfl ?_
    refine aw_iload (pc := 50) C dX10_turns_50 6 rfl ?_
    refine aw_if_ne (pc := 52) C 65 dX10_turns_52 (by decide) (fun c24 => ?_) (fun c24 => ?_)
    · refine aw_aload_n (pc := 55) C dX10_turns_55 rfl 0 rfl ?_
      refine aw_getR (pc := 56) C fl_X10_15 dX10_turns_56 (fun v18 ev18 => ?_)
      refine aw_iload (pc := 59) C dX10_turns_59 5 rfl ?_
      refine aw_laload (pc := 61) C dX10_turns_61 (fun v19 ev19 => ?_)
      refine aw_goto (pc := 62) C 66 dX10_turns_62 (by decide) ?_
      refine aw_lastore (pc := 66) C dX10_turns_66 (fun h20 eh20 => ?_)
      refine aw_iincN (pc := 67) (L1 := [(0, rf E a0), (1, .long a1), (3, .long a3), (5, .long a5), (7, .long a7), (9, .int v8)]) (k := 1) C dX10_turns_67 6 rfl (by decide) (by decide) rfl (fun v21 ev21 => ?_)
      refine aw_goto (pc := 70) C 38 dX10_turns_70 (by decide) ?_
      exact aw_sub (L' := [(0, rf E a0), (1, .long a1), (3, .long a3), (5, .long a5), (7, .long a7), (9, .int v8), (10, .int v21)]) [1, 2, 3, 4, 5, 6, 0] rfl (ih16 (v21, h20))
    refine aw_lconst (pc := 65) (v := 0) C dX10_turns_65 (by decide) ?_
    refine aw_lastore (pc := 66) C dX10_turns_66 (fun h22 eh22 => ?_)
    refine aw_iincN (pc := 67) (L1 := [(0, rf E a0), (1, .long a1), (3, .long a3), (5, .long a5), (7, .long a7), (9, .int v8)]) (k := 1) C dX10_turns_67 6 rfl (by decide) (by decide) rfl (fun v23 ev23 => ?_)
    refine aw_goto (pc := 70) C 38 dX10_turns_70 (by decide) ?_
    exact aw_sub (L' := [(0, rf E a0), (1, .long a1), (3, .long a3), (5, .long a5), (7, .long a7), (9, .int v8), (10, .int v23)]) [1, 2, 3, 4, 5, 6, 0] rfl (ih16 (v23, h22))
  refine aw_aload_n (pc := 9) C dX10_turns_9 rfl 0 rfl ?_
  refine aw_getR (pc := 10) C fl_X10_35 dX10_turns_10 (fun v5 ev5 => ?_)
  refine aw_iload (pc := 13) C dX10_turns_13 5 rfl ?_
  refine aw_lconst (pc := 15) (v := 0) C dX10_turns_15 (by decide) ?_
  refine aw_lastore (pc := 16) C dX10_turns_16 (fun h6 eh6 => ?_)
  refine aw_iincN (pc := 17) (L1 := [(0, rf E a0), (1, .long a1), (3, .long a3), (5, .long a5), (7, .long a7)]) (k := 1) C dX10_turns_17 5 rfl (by decide) (by decide) rfl (fun v7 ev7 => ?_)
  refine aw_goto (pc := 20) C 3 dX10_turns_20 (by decide) ?_
  exact aw_sub (L' := [(0, rf E a0), (1, .long a1), (3, .long a3), (5, .long a5), (7, .long a7), (9, .int v7)]) [1, 2, 3, 4, 5, 0] rfl (ih4 (v7, h6))
def rmX10_becomesTurned : Room := { frames := 1, cells := 0, slots := 0, locals := 25 }
set_option maxHeartbeats 4000000 in
set_option maxRecDepth 100000 in
theorem okX10_becomesTurned (E : Ev) (l : Launch) (a0 : Nat) (h0 : Mem) : AMet E l yX10_becomesTurned cX10_becomesTurned 2 (some (.boolean)) rmX10_becomesTurned [rf E a0] h0 rvI (fX10_becomesTurned a0 h0) := by
  refine am_intro (plainFor_of_name (by decide +kernel)) (Nat.le_of_ble_eq_true rfl) (fun K hKl C hr hnm hz0 => ?_)
  replace C : CxOK K E RX10 cX10_becomesTurned 2 := C
  have hE : E.1 + 1 ≤ (kS K).heap.size := by omega
  unfold fX10_becomesTurned
  show Aw K E _ _ _ _ _ 0 [(0, rf E a0)] [] h0 _
  refine aw_iconst (pc := 0) (v := 0) C dX10_becomesTurned_0 (by decide) ?_
  refine aw_istore_n (pc := 1) (L' := [(1, .int 0), (0, rf E a0)]) C dX10_becomesTurned_1 rfl (by decide) rfl ?_
  refine aw_sub (L' := [(0, rf E a0), (1, .int 0)]) [1, 0] rfl ?_
  refine aw_loop (pc := 2) (σ := Int32 × Mem) (fun s => [(0, rf E a0), (1, .int s.1)]) (fun s => s.2) _ (fun k3 ih4 s => ?_) _ _
  obtain ⟨v1, h2⟩ := s
  show Aw K E _ _ _ _ _ 2 [(0, rf E a0), (1, .int v1)] [] h2 _
  refine aw_iload_n (pc := 2) C dX10_becomesTurned_2 rfl 1 rfl ?_
  refine aw_aload_n (pc := 3) C dX10_becomesTurned_3 rfl 0 rfl ?_
  refine aw_getI (pc := 4) C fl_X10_9 dX10_becomesTurned_4 (fun v5 ev5 => ?_)
  refine aw_icmp_gt (pc := 7) C 36 dX10_becomesTurned_7 (by decide) (fun c23 => ?_) (fun c23 => ?_)
  · refine aw_iconst (pc := 36) (v := 0) C dX10_becomesTurned_36 (by decide) ?_
    refine aw_istore_n (pc := 37) (L' := [(1, .int 0), (0, rf E a0)]) C dX10_becomesTurned_37 rfl (by decide) rfl ?_
    refine aw_sub (L' := [(0, rf E a0), (1, .int 0)]) [1, 0] rfl ?_
    refine aw_loop (pc := 38) (σ := Int32 × Mem) (fun s => [(0, rf E a0), (1, .int s.1)]) (fun s => s.2) _ (fun k14 ih15 s => ?_) _ _
    obtain ⟨v12, h13⟩ := s
    show Aw K E _ _ _ _ _ 38 [(0, rf E a0), (1, .int v12)] [] h13 _
    refine aw_iload_n (pc := 38) C dX10_becomesTurned_38 rfl 1 rfl ?_
    refine aw_aload_n (pc := 39) C dX10_becomesTurned_39 rfl 0 rfl ?_
    refine aw_getI (pc := 40) C fl_X10_9 dX10_becomesTurned_40 (fun v16 ev16 => ?_)
    refine aw_icmp_gt (pc := 43) C 64 dX10_becomesTurned_43 (by decide) (fun c22 => ?_) (fun c22 => ?_)
    · refine aw_iconst (pc := 64) (v := 1) C dX10_becomesTurned_64 (by decide) ?_
      exact aw_ireturn (pc := 65) C hr rfl hz0 rfl dX10_becomesTurned_65
    refine aw_aload_n (pc := 46) C dX10_becomesTurned_46 rfl 0 rfl ?_
    refine aw_getR (pc := 47) C fl_X10_15 dX10_becomesTurned_47 (fun v17 ev17 => ?_)
    refine aw_iload_n (pc := 50) C dX10_becomesTurned_50 rfl 1 rfl ?_
    refine aw_aload_n (pc := 51) C dX10_becomesTurned_51 rfl 0 rfl ?_
    refine aw_getR (pc := 52) C fl_X10_35 dX10_becomesTurned_52 (fun v18 ev18 => ?_)
    refine aw_iload_n (pc := 55) C dX10_becomesTurned_55 rfl 1 rfl ?_
    refine aw_laload (pc := 56) C dX10_becomesTurned_56 (fun v19 ev19 => ?_)
    refine aw_lastore (pc := 57) C dX10_becomesTurned_57 (fun h20 eh20 => ?_)
    refine aw_iincN (pc := 58) (L1 := [(0, rf E a0)]) (k := 1) C dX10_becomesTurned_58 1 rfl (by decide) (by decide) rfl (fun v21 ev21 => ?_)
    refine aw_goto (pc := 61) C 38 dX10_becomesTurned_61 (by decide) ?_
    exact aw_sub (L' := [(0, rf E a0), (1, .int v21)]) [1, 0] rfl (ih15 (v21, h20))
  refine aw_aload_n (pc := 10) C dX10_becomesTurned_10 rfl 0 rfl ?_
  refine aw_getR (pc := 11) C fl_X10_35 dX10_becomesTurned_11 (fun v6 ev6 => ?_)
  refine aw_iload_n (pc := 14) C dX10_becomesTurned_14 rfl 1 rfl ?_
  refine aw_laload (pc := 15) C dX10_becomesTurned_15 (fun v7 ev7 => ?_)
  refine aw_ldc2 (pc := 16) (v := (-99)) C kc_X10_108 dX10_becomesTurned_16 ?_
  refine aw_ldc2 (pc := 19) (v := 99) C kc_X10_110 dX10_becomesTurned_19 ?_
  refine aw_callSI (pc := 22) (R := rmX10_becomesTurned) (As := [.long v7, .long (-99), .long 99]) (rest := []) (st := [.long 99, .long (-99), .long v7]) (c' := 0) (s' := 0) C hE cal_X10_in ml_X10_96 rfl ⟨(Nat.le_of_ble_eq_true rfl), (Nat.le_of_ble_eq_true rfl)⟩ ⟨(Nat.le_of_ble_eq_true rfl), (Nat.le_of_ble_eq_true rfl)⟩ dX10_becomesTurned_22 (okX10_in E (kL K) v7 (-99) 99 h2) rfl (Nat.le_of_ble_eq_true rfl) rfl rfl (fun v9 h8 eh8 => ?_)
  refine aw_if_ne (pc := 25) C 30 dX10_becomesTurned_25 (by decide) (fun c11 => ?_) (fun c11 => ?_)
  · refine aw_iconst (pc := 28) (v := 0) C dX10_becomesTurned_28 (by decide) ?_
    exact aw_ireturn (pc := 29) C hr rfl hz0 rfl dX10_becomesTurned_29
  refine aw_iincN (pc := 30) (L1 := [(0, rf E a0)]) (k := 1) C dX10_becomesTurned_30 1 rfl (by decide) (by decide) rfl (fun v10 ev10 => ?_)
  refine aw_goto (pc := 33) C 2 dX10_becomesTurned_33 (by decide) ?_
  exact aw_sub (L' := [(0, rf E a0), (1, .int v10)]) [1, 0] rfl (ih4 (v10, h8))
def rmX10_moves : Room := { frames := 2, cells := 0, slots := 0, locals := 55 }
set_option maxHeartbeats 4000000 in
set_option maxRecDepth 100000 in
theorem okX10_moves (E : Ev) (l : Launch) (a0 : Nat) (a1 : Int32) (h0 : Mem) : AMet E l yX10_moves cX10_moves 3 (some (.boolean)) rmX10_moves [rf E a0, .int a1] h0 rvI (fX10_moves a0 a1 h0) := by
  refine am_intro (plainFor_of_name (by decide +kernel)) (Nat.le_of_ble_eq_true rfl) (fun K hKl C hr hnm hz0 => ?_)
  replace C : CxOK K E RX10 cX10_moves 3 := C
  have hE : E.1 + 1 ≤ (kS K).heap.size := by omega
  unfold fX10_moves
  show Aw K E _ _ _ _ _ 0 [(0, rf E a0), (1, .int a1)] [] h0 _
  refine aw_iload_n (pc := 0) C dX10_moves_0 rfl 1 rfl ?_
  refine aw_case 0 (fun c1 => ?_) (fun c1 => ?_)
  · refine aw_tableIn (pc := 1) C 0 32 c1 dX10_moves_1 (by decide) (by decide) rfl (by decide) ?_
    refine aw_aload_n (pc := 32) C dX10_moves_32 rfl 0 rfl ?_
    refine aw_lconst (pc := 33) (v := 1) C dX10_moves_33 (by decide) ?_
    refine aw_lconst (pc := 34) (v := 1) C dX10_moves_34 (by decide) ?_
    refine aw_lconst (pc := 35) (v := 0) C dX10_moves_35 (by decide) ?_
    refine aw_lconst (pc := 36) (v := 1) C dX10_moves_36 (by decide) ?_
    refine aw_callVV (pc := 37) (R := rmX10_moves) (c := 10) (As := [.long 1, .long 1, .long 0, .long 1]) (rest := []) (st := [.long 1, .long 0, .long 1, .long 1, rf E a0]) (c' := 0) (s' := 0) C hE rfl (by decide) cal_X10_turns ml_X10_126 rfl ⟨(Nat.le_of_ble_eq_true rfl), (Nat.le_of_ble_eq_true rfl)⟩ ⟨(Nat.le_of_ble_eq_true rfl), (Nat.le_of_ble_eq_true rfl)⟩ dX10_moves_37 (okX10_turns E (kL K) a0 1 1 0 1 h0) rfl (Nat.le_of_ble_eq_true rfl) rfl rfl (fun _u h2 eh2 => ?_)
    refine aw_goto (pc := 40) C 109 dX10_moves_40 (by decide) ?_
    refine aw_aload_n (pc := 109) C dX10_moves_109 rfl 0 rfl ?_
    refine aw_callVI (pc := 110) (R := rmX10_moves) (c := 10) (As := []) (rest := []) (st := [rf E a0]) (c' := 0) (s' := 0) C hE rfl (by decide) cal_X10_becomesTurned ml_X10_132 rfl ⟨(Nat.le_of_ble_eq_true rfl), (Nat.le_of_ble_eq_true rfl)⟩ ⟨(Nat.le_of_ble_eq_true rfl), (Nat.le_of_ble_eq_true rfl)⟩ dX10_moves_110 (okX10_becomesTurned E (kL K) a0 h2) rfl (Nat.le_of_ble_eq_true rfl) rfl rfl (fun v4 h3 eh3 => ?_)
    exact aw_zreturn (pc := 113) C hr hz0 rfl dX10_moves_113
  refine aw_case 1 (fun c5 => ?_) (fun c5 => ?_)
  · refine aw_tableIn (pc := 1) C 1 43 c5 dX10_moves_1 (by decide) (by decide) rfl (by decide) ?_
    refine aw_aload_n (pc := 43) C dX10_moves_43 rfl 0 rfl ?_
    refine aw_lconst (pc := 44) (v := 1) C dX10_moves_44 (by decide) ?_
    refine aw_ldc2 (pc := 45) (v := (-1)) C kc_X10_130 dX10_moves_45 ?_
    refine aw_lconst (pc := 48) (v := 0) C dX10_moves_48 (by decide) ?_
    refine aw_lconst (pc := 49) (v := 1) C dX10_moves_49 (by decide) ?_
    refine aw_callVV (pc := 50) (R := rmX10_moves) (c := 10) (As := [.long 1, .long (-1), .long 0, .long 1]) (rest := []) (st := [.long 1, .long 0, .long (-1), .long 1, rf E a0]) (c' := 0) (s' := 0) C hE rfl (by decide) cal_X10_turns ml_X10_126 rfl ⟨(Nat.le_of_ble_eq_true rfl), (Nat.le_of_ble_eq_true rfl)⟩ ⟨(Nat.le_of_ble_eq_true rfl), (Nat.le_of_ble_eq_true rfl)⟩ dX10_moves_50 (okX10_turns E (kL K) a0 1 (-1) 0 1 h0) rfl (Nat.le_of_ble_eq_true rfl) rfl rfl (fun _u h6 eh6 => ?_)
    refine aw_goto (pc := 53) C 109 dX10_moves_53 (by decide) ?_
    refine aw_aload_n (pc := 109) C dX10_moves_109 rfl 0 rfl ?_
    refine aw_callVI (pc := 110) (R := rmX10_moves) (c := 10) (As := []) (rest := []) (st := [rf E a0]) (c' := 0) (s' := 0) C hE rfl (by decide) cal_X10_becomesTurned ml_X10_132 rfl ⟨(Nat.le_of_ble_eq_true rfl), (Nat.le_of_ble_eq_true rfl)⟩ ⟨(Nat.le_of_ble_eq_true rfl), (Nat.le_of_ble_eq_true rfl)⟩ dX10_moves_110 (okX10_becomesTurned E (kL K) a0 h6) rfl (Nat.le_of_ble_eq_true rfl) rfl rfl (fun v8 h7 eh7 => ?_)
    exact aw_zreturn (pc := 113) C hr hz0 rfl dX10_moves_113
  refine aw_case 2 (fun c9 => ?_) (fun c9 => ?_)
  · refine aw_tableIn (pc := 1) C 2 56 c9 dX10_moves_1 (by decide) (by decide) rfl (by decide) ?_
    refine aw_aload_n (pc := 56) C dX10_moves_56 rfl 0 rfl ?_
    refine aw_lconst (pc := 57) (v := 0) C dX10_moves_57 (by decide) ?_
    refine aw_lconst (pc := 58) (v := 1) C dX10_moves_58 (by decide) ?_
    refine aw_lconst (pc := 59) (v := 1) C dX10_moves_59 (by decide) ?_
    refine aw_lconst (pc := 60) (v := 0) C dX10_moves_60 (by decide) ?_
    refine aw_callVV (pc := 61) (R := rmX10_moves) (c := 10) (As := [.long 0, .long 1, .long 1, .long 0]) (rest := []) (st := [.long 0, .long 1, .long 1, .long 0, rf E a0]) (c' := 0) (s' := 0) C hE rfl (by decide) cal_X10_turns ml_X10_126 rfl ⟨(Nat.le_of_ble_eq_true rfl), (Nat.le_of_ble_eq_true rfl)⟩ ⟨(Nat.le_of_ble_eq_true rfl), (Nat.le_of_ble_eq_true rfl)⟩ dX10_moves_61 (okX10_turns E (kL K) a0 0 1 1 0 h0) rfl (Nat.le_of_ble_eq_true rfl) rfl rfl (fun _u h10 eh10 => ?_)
    refine aw_goto (pc := 64) C 109 dX10_moves_64 (by decide) ?_
    refine aw_aload_n (pc := 109) C dX10_moves_109 rfl 0 rfl ?_
    refine aw_callVI (pc := 110) (R := rmX10_moves) (c := 10) (As := []) (rest := []) (st := [rf E a0]) (c' := 0) (s' := 0) C hE rfl (by decide) cal_X10_becomesTurned ml_X10_132 rfl ⟨(Nat.le_of_ble_eq_true rfl), (Nat.le_of_ble_eq_true rfl)⟩ ⟨(Nat.le_of_ble_eq_true rfl), (Nat.le_of_ble_eq_true rfl)⟩ dX10_moves_110 (okX10_becomesTurned E (kL K) a0 h10) rfl (Nat.le_of_ble_eq_true rfl) rfl rfl (fun v12 h11 eh11 => ?_)
    exact aw_zreturn (pc := 113) C hr hz0 rfl dX10_moves_113
  refine aw_case 3 (fun c13 => ?_) (fun c13 => ?_)
  · refine aw_tableIn (pc := 1) C 3 67 c13 dX10_moves_1 (by decide) (by decide) rfl (by decide) ?_
    refine aw_aload_n (pc := 67) C dX10_moves_67 rfl 0 rfl ?_
    refine aw_ldc2 (pc := 68) (v := (-1)) C kc_X10_130 dX10_moves_68 ?_
    refine aw_lconst (pc := 71) (v := 0) C dX10_moves_71 (by decide) ?_
    refine aw_lconst (pc := 72) (v := 0) C dX10_moves_72 (by decide) ?_
    refine aw_lconst (pc := 73) (v := 1) C dX10_moves_73 (by decide) ?_
    refine aw_callVV (pc := 74) (R := rmX10_moves) (c := 10) (As := [.long (-1), .long 0, .long 0, .long 1]) (rest := []) (st := [.long 1, .long 0, .long 0, .long (-1), rf E a0]) (c' := 0) (s' := 0) C hE rfl (by decide) cal_X10_turns ml_X10_126 rfl ⟨(Nat.le_of_ble_eq_true rfl), (Nat.le_of_ble_eq_true rfl)⟩ ⟨(Nat.le_of_ble_eq_true rfl), (Nat.le_of_ble_eq_true rfl)⟩ dX10_moves_74 (okX10_turns E (kL K) a0 (-1) 0 0 1 h0) rfl (Nat.le_of_ble_eq_true rfl) rfl rfl (fun _u h14 eh14 => ?_)
    refine aw_goto (pc := 77) C 109 dX10_moves_77 (by decide) ?_
    refine aw_aload_n (pc := 109) C dX10_moves_109 rfl 0 rfl ?_
    refine aw_callVI (pc := 110) (R := rmX10_moves) (c := 10) (As := []) (rest := []) (st := [rf E a0]) (c' := 0) (s' := 0) C hE rfl (by decide) cal_X10_becomesTurned ml_X10_132 rfl ⟨(Nat.le_of_ble_eq_true rfl), (Nat.le_of_ble_eq_true rfl)⟩ ⟨(Nat.le_of_ble_eq_true rfl), (Nat.le_of_ble_eq_true rfl)⟩ dX10_moves_110 (okX10_becomesTurned E (kL K) a0 h14) rfl (Nat.le_of_ble_eq_true rfl) rfl rfl (fun v16 h15 eh15 => ?_)
    exact aw_zreturn (pc := 113) C hr hz0 rfl dX10_moves_113
  refine aw_tableOut (pc := 1) C 80 dX10_moves_1 (by have qc1 := lv_neT c1 (show (0 : Int32).toInt = 0 by decide); have qc5 := lv_neT c5 (show (1 : Int32).toInt = 1 by decide); have qc9 := lv_neT c9 (show (2 : Int32).toInt = 2 by decide); have qc13 := lv_neT c13 (show (3 : Int32).toInt = 3 by decide); omega) (by decide) ?_
  refine aw_iconst (pc := 80) (v := 0) C dX10_moves_80 (by decide) ?_
  refine aw_istore_n (pc := 81) (L' := [(2, .int 0), (0, rf E a0), (1, .int a1)]) C dX10_moves_81 rfl (by decide) rfl ?_
  refine aw_sub (L' := [(0, rf E a0), (2, .int 0)]) [1, 0] rfl ?_
  refine aw_loop (pc := 82) (σ := Int32 × Mem) (fun s => [(0, rf E a0), (2, .int s.1)]) (fun s => s.2) _ (fun k19 ih20 s => ?_) _ _
  obtain ⟨v17, h18⟩ := s
  show Aw K E _ _ _ _ _ 82 [(0, rf E a0), (2, .int v17)] [] h18 _
  refine aw_iload_n (pc := 82) C dX10_moves_82 rfl 1 rfl ?_
  refine aw_aload_n (pc := 83) C dX10_moves_83 rfl 0 rfl ?_
  refine aw_getI (pc := 84) C fl_X10_9 dX10_moves_84 (fun v21 ev21 => ?_)
  refine aw_icmp_gt (pc := 87) C 109 dX10_moves_87 (by decide) (fun c29 => ?_) (fun c29 => ?_)
  · refine aw_aload_n (pc := 109) C dX10_moves_109 rfl 0 rfl ?_
    refine aw_callVI (pc := 110) (R := rmX10_moves) (c := 10) (As := []) (rest := []) (st := [rf E a0]) (c' := 0) (s' := 0) C hE rfl (by decide) cal_X10_becomesTurned ml_X10_132 rfl ⟨(Nat.le_of_ble_eq_true rfl), (Nat.le_of_ble_eq_true rfl)⟩ ⟨(Nat.le_of_ble_eq_true rfl), (Nat.le_of_ble_eq_true rfl)⟩ dX10_moves_110 (okX10_becomesTurned E (kL K) a0 h18) rfl (Nat.le_of_ble_eq_true rfl) rfl rfl (fun v28 h27 eh27 => ?_)
    exact aw_zreturn (pc := 113) C hr hz0 rfl dX10_moves_113
  refine aw_aload_n (pc := 90) C dX10_moves_90 rfl 0 rfl ?_
  refine aw_getR (pc := 91) C fl_X10_35 dX10_moves_91 (fun v22 ev22 => ?_)
  refine aw_iload_n (pc := 94) C dX10_moves_94 rfl 1 rfl ?_
  refine aw_aload_n (pc := 95) C dX10_moves_95 rfl 0 rfl ?_
  refine aw_getR (pc := 96) C fl_X10_15 dX10_moves_96 (fun v23 ev23 => ?_)
  refine aw_iload_n (pc := 99) C dX10_moves_99 rfl 1 rfl ?_
  refine aw_laload (pc := 100) C dX10_moves_100 (fun v24 ev24 => ?_)
  refine aw_lneg (pc := 101) C dX10_moves_101 ?_
  refine aw_lastore (pc := 102) C dX10_moves_102 (fun h25 eh25 => ?_)
  refine aw_iincN (pc := 103) (L1 := [(0, rf E a0)]) (k := 1) C dX10_moves_103 1 rfl (by decide) (by decide) rfl (fun v26 ev26 => ?_)
  refine aw_goto (pc := 106) C 82 dX10_moves_106 (by decide) ?_
  exact aw_sub (L' := [(0, rf E a0), (2, .int v26)]) [1, 0] rfl (ih20 (v26, h25))
