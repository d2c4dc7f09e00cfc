def rmX10_move : Room := { frames := 3, cells := 0, slots := 0, locals := 77 }
set_option maxHeartbeats 4000000 in
set_option maxRecDepth 100000 in
theorem okX10_move (E : Ev) (l : Launch) (a0 : Nat) (a1 : Int32) (h0 : Mem) : AMet E l yX10_move cX10_move 2 (some (.int)) rmX10_move [rf E a0, .int a1] h0 rvI (fX10_move a0 a1 h0) := by
  refine am_intro (plainFor_of_name (by decide +kernel)) (Nat.le_of_ble_eq_true rfl) (fun K hKl C hr hnm hz0 => ?_)
  replace C : CxOK K E RX10 cX10_move 2 := C
  have hE : E.1 + 1 ≤ (kS K).heap.size := by omega
  unfold fX10_move
  show Aw K E _ _ _ _ _ 0 [(0, rf E a0), (1, .int a1)] [] h0 _
  refine aw_iload_n (pc := 0) C dX10_move_0 rfl 1 rfl ?_
  refine aw_i2l (pc := 1) C dX10_move_1 ?_
  refine aw_lconst (pc := 2) (v := 0) C dX10_move_2 (by decide) ?_
  refine aw_ldc2 (pc := 3) (v := 4) C kc_X10_102 dX10_move_3 ?_
  refine aw_callSI (pc := 6) (R := rmX10_move) (As := [.long a1.toInt64, .long 0, .long 4]) (rest := []) (st := [.long 4, .long 0, .long a1.toInt64]) (c' := 0) (s' := 0) C hE cal_X10_in ml_X10_96 rfl ⟨(Nat.le_of_ble_eq_true rfl), (Nat.le_of_ble_eq_true rfl)⟩ ⟨(Nat.le_of_ble_eq_true rfl), (Nat.le_of_ble_eq_true rfl)⟩ dX10_move_6 (okX10_in E (kL K) a1.toInt64 0 4 h0) rfl (Nat.le_of_ble_eq_true rfl) rfl rfl (fun v2 h1 eh1 => ?_)
  refine aw_if_ne (pc := 9) C 14 dX10_move_9 (by decide) (fun c6 => ?_) (fun c6 => ?_)
  · refine aw_iconst (pc := 12) (v := (-1)) C dX10_move_12 (by decide) ?_
    exact aw_ireturn (pc := 13) C hr rfl hz0 rfl dX10_move_13
  refine aw_aload_n (pc := 14) C dX10_move_14 rfl 0 rfl ?_
  refine aw_iload_n (pc := 15) C dX10_move_15 rfl 1 rfl ?_
  refine aw_callVI (pc := 16) (R := rmX10_move) (c := 10) (As := [.int a1]) (rest := []) (st := [.int a1, rf E a0]) (c' := 0) (s' := 0) C hE rfl (by decide) cal_X10_moves ml_X10_136 rfl ⟨(Nat.le_of_ble_eq_true rfl), (Nat.le_of_ble_eq_true rfl)⟩ ⟨(Nat.le_of_ble_eq_true rfl), (Nat.le_of_ble_eq_true rfl)⟩ dX10_move_16 (okX10_moves E (kL K) a0 a1 h1) rfl (Nat.le_of_ble_eq_true rfl) rfl rfl (fun v4 h3 eh3 => ?_)
  refine aw_if_eq (pc := 19) C 26 dX10_move_19 (by decide) (fun c5 => ?_) (fun c5 => ?_)
  · refine aw_bipush (pc := 26) (v := (-3)) C dX10_move_26 (by decide) ?_
    exact aw_ireturn (pc := 28) C hr rfl hz0 rfl dX10_move_28
  refine aw_iconst (pc := 22) (v := 1) C dX10_move_22 (by decide) ?_
  refine aw_goto (pc := 23) C 28 dX10_move_23 (by decide) ?_
  exact aw_ireturn (pc := 28) C hr rfl hz0 rfl dX10_move_28
def rmX10_turn : Room := { frames := 2, cells := 0, slots := 0, locals := 55 }
set_option maxHeartbeats 4000000 in
set_option maxRecDepth 100000 in
theorem okX10_turn (E : Ev) (l : Launch) (a0 : Nat) (a1 : Int32) (a2 : Int32) (a3 : Int32) (a4 : Int32) (h0 : Mem) : AMet E l yX10_turn cX10_turn 5 (some (.int)) rmX10_turn [rf E a0, .int a1, .int a2, .int a3, .int a4] h0 rvI (fX10_turn a0 a1 a2 a3 a4 h0) := by
  refine am_intro (plainFor_of_name (by decide +kernel)) (Nat.le_of_ble_eq_true rfl) (fun K hKl C hr hnm hz0 => ?_)
  replace C : CxOK K E RX10 cX10_turn 5 := C
  have hE : E.1 + 1 ≤ (kS K).heap.size := by omega
  unfold fX10_turn
  show Aw K E _ _ _ _ _ 0 [(0, rf E a0), (1, .int a1), (2, .int a2), (3, .int a3), (4, .int a4)] [] h0 _
  refine aw_iload_n (pc := 0) C dX10_turn_0 rfl 1 rfl ?_
  refine aw_i2l (pc := 1) C dX10_turn_1 ?_
  refine aw_ldc2 (pc := 2) (v := (-9)) C kc_X10_139 dX10_turn_2 ?_
  refine aw_ldc2 (pc := 5) (v := 9) C kc_X10_141 dX10_turn_5 ?_
  refine aw_callSI (pc := 8) (R := rmX10_turn) (As := [.long a1.toInt64, .long (-9), .long 9]) (rest := []) (st := [.long 9, .long (-9), .long a1.toInt64]) (c' := 0) (s' := 0) C hE cal_X10_in ml_X10_96 rfl ⟨(Nat.le_of_ble_eq_true rfl), (Nat.le_of_ble_eq_true rfl)⟩ ⟨(Nat.le_of_ble_eq_true rfl), (Nat.le_of_ble_eq_true rfl)⟩ dX10_turn_8 (okX10_in E (kL K) a1.toInt64 (-9) 9 h0) rfl (Nat.le_of_ble_eq_true rfl) rfl rfl (fun v2 h1 eh1 => ?_)
  refine aw_if_eq (pc := 11) C 57 dX10_turn_11 (by decide) (fun c16 => ?_) (fun c16 => ?_)
  · refine aw_bipush (pc := 57) (v := (-2)) C dX10_turn_57 (by decide) ?_
    exact aw_ireturn (pc := 59) C hr rfl hz0 rfl dX10_turn_59
  refine aw_iload_n (pc := 14) C dX10_turn_14 rfl 2 rfl ?_
  refine aw_i2l (pc := 15) C dX10_turn_15 ?_
  refine aw_ldc2 (pc := 16) (v := (-9)) C kc_X10_139 dX10_turn_16 ?_
  refine aw_ldc2 (pc := 19) (v := 9) C kc_X10_141 dX10_turn_19 ?_
  refine aw_callSI (pc := 22) (R := rmX10_turn) (As := [.long a2.toInt64, .long (-9), .long 9]) (rest := []) (st := [.long 9, .long (-9), .long a2.toInt64]) (c' := 0) (s' := 0) C hE cal_X10_in ml_X10_96 rfl ⟨(Nat.le_of_ble_eq_true rfl), (Nat.le_of_ble_eq_true rfl)⟩ ⟨(Nat.le_of_ble_eq_true rfl), (Nat.le_of_ble_eq_true rfl)⟩ dX10_turn_22 (okX10_in E (kL K) a2.toInt64 (-9) 9 h1) rfl (Nat.le_of_ble_eq_true rfl) rfl rfl (fun v4 h3 eh3 => ?_)
  refine aw_if_eq (pc := 25) C 57 dX10_turn_25 (by decide) (fun c15 => ?_) (fun c15 => ?_)
  · refine aw_bipush (pc := 57) (v := (-2)) C dX10_turn_57 (by decide) ?_
    exact aw_ireturn (pc := 59) C hr rfl hz0 rfl dX10_turn_59
  refine aw_iload_n (pc := 28) C dX10_turn_28 rfl 3 rfl ?_
  refine aw_i2l (pc := 29) C dX10_turn_29 ?_
  refine aw_ldc2 (pc := 30) (v := (-9)) C kc_X10_139 dX10_turn_30 ?_
  refine aw_ldc2 (pc := 33) (v := 9) C kc_X10_141 dX10_turn_33 ?_
  refine aw_callSI (pc := 36) (R := rmX10_turn) (As := [.long a3.toInt64, .long (-9), .long 9]) (rest := []) (st := [.long 9, .long (-9), .long a3.toInt64]) (c' := 0) (s' := 0) C hE cal_X10_in ml_X10_96 rfl ⟨(Nat.le_of_ble_eq_true rfl), (Nat.le_of_ble_eq_true rfl)⟩ ⟨(Nat.le_of_ble_eq_true rfl), (Nat.le_of_ble_eq_true rfl)⟩ dX10_turn_36 (okX10_in E (kL K) a3.toInt64 (-9) 9 h3) rfl (Nat.le_of_ble_eq_true rfl) rfl rfl (fun v6 h5 eh5 => ?_)
  refine aw_if_eq (pc := 39) C 57 dX10_turn_39 (by decide) (fun c14 => ?_) (fun c14 => ?_)
  · refine aw_bipush (pc := 57) (v := (-2)) C dX10_turn_57 (by decide) ?_
    exact aw_ireturn (pc := 59) C hr rfl hz0 rfl dX10_turn_59
  refine aw_iload (pc := 42) C dX10_turn_42 4 rfl ?_
  refine aw_i2l (pc := 44) C dX10_turn_44 ?_
  refine aw_ldc2 (pc := 45) (v := (-9)) C kc_X10_139 dX10_turn_45 ?_
  refine aw_ldc2 (pc := 48) (v := 9) C kc_X10_141 dX10_turn_48 ?_
  refine aw_callSI (pc := 51) (R := rmX10_turn) (As := [.long a4.toInt64, .long (-9), .long 9]) (rest := []) (st := [.long 9, .long (-9), .long a4.toInt64]) (c' := 0) (s' := 0) C hE cal_X10_in ml_X10_96 rfl ⟨(Nat.le_of_ble_eq_true rfl), (Nat.le_of_ble_eq_true rfl)⟩ ⟨(Nat.le_of_ble_eq_true rfl), (Nat.le_of_ble_eq_true rfl)⟩ dX10_turn_51 (okX10_in E (kL K) a4.toInt64 (-9) 9 h5) rfl (Nat.le_of_ble_eq_true rfl) rfl rfl (fun v8 h7 eh7 => ?_)
  refine aw_if_ne (pc := 54) C 60 dX10_turn_54 (by decide) (fun c13 => ?_) (fun c13 => ?_)
  · refine aw_bipush (pc := 57) (v := (-2)) C dX10_turn_57 (by decide) ?_
    exact aw_ireturn (pc := 59) C hr rfl hz0 rfl dX10_turn_59
  refine aw_aload_n (pc := 60) C dX10_turn_60 rfl 0 rfl ?_
  refine aw_iload_n (pc := 61) C dX10_turn_61 rfl 1 rfl ?_
  refine aw_i2l (pc := 62) C dX10_turn_62 ?_
  refine aw_iload_n (pc := 63) C dX10_turn_63 rfl 2 rfl ?_
  refine aw_i2l (pc := 64) C dX10_turn_64 ?_
  refine aw_iload_n (pc := 65) C dX10_turn_65 rfl 3 rfl ?_
  refine aw_i2l (pc := 66) C dX10_turn_66 ?_
  refine aw_iload (pc := 67) C dX10_turn_67 4 rfl ?_
  refine aw_i2l (pc := 69) C dX10_turn_69 ?_
  refine aw_callVV (pc := 70) (R := rmX10_turn) (c := 10) (As := [.long a1.toInt64, .long a2.toInt64, .long a3.toInt64, .long a4.toInt64]) (rest := []) (st := [.long a4.toInt64, .long a3.toInt64, .long a2.toInt64, .long a1.toInt64, rf E a0]) (c' := 0) (s' := 0) C hE rfl (by decide) cal_X10_turns ml_X10_126 rfl ⟨(Nat.le_of_ble_eq_true rfl), (Nat.le_of_ble_eq_true rfl)⟩ ⟨(Nat.le_of_ble_eq_true rfl), (Nat.le_of_ble_eq_true rfl)⟩ dX10_turn_70 (okX10_turns E (kL K) a0 a1.toInt64 a2.toInt64 a3.toInt64 a4.toInt64 h7) rfl (Nat.le_of_ble_eq_true rfl) rfl rfl (fun _u h9 eh9 => ?_)
  refine aw_aload_n (pc := 73) C dX10_turn_73 rfl 0 rfl ?_
  refine aw_callVI (pc := 74) (R := rmX10_turn) (c := 10) (As := []) (rest := []) (st := [rf E a0]) (c' := 0) (s' := 0) C hE rfl (by decide) cal_X10_becomesTurned ml_X10_132 rfl ⟨(Nat.le_of_ble_eq_true rfl), (Nat.le_of_ble_eq_true rfl)⟩ ⟨(Nat.le_of_ble_eq_true rfl), (Nat.le_of_ble_eq_true rfl)⟩ dX10_turn_74 (okX10_becomesTurned E (kL K) a0 h9) rfl (Nat.le_of_ble_eq_true rfl) rfl rfl (fun v11 h10 eh10 => ?_)
  refine aw_if_eq (pc := 77) C 84 dX10_turn_77 (by decide) (fun c12 => ?_) (fun c12 => ?_)
  · refine aw_bipush (pc := 84) (v := (-3)) C dX10_turn_84 (by decide) ?_
    exact aw_ireturn (pc := 86) C hr rfl hz0 rfl dX10_turn_86
  refine aw_iconst (pc := 80) (v := 1) C dX10_turn_80 (by decide) ?_
  refine aw_goto (pc := 81) C 86 dX10_turn_81 (by decide) ?_
  exact aw_ireturn (pc := 86) C hr rfl hz0 rfl dX10_turn_86
def rmX10_feed : Room := { frames := 1, cells := 0, slots := 0, locals := 25 }
set_option maxHeartbeats 4000000 in
set_option maxRecDepth 100000 in
theorem okX10_feed (E : Ev) (l : Launch) (a0 : Nat) (a1 : Int32) (h0 : Mem) : AMet E l yX10_feed cX10_feed 2 (some (.int)) rmX10_feed [rf E a0, .int a1] h0 rvI (fX10_feed a0 a1 h0) := by
  refine am_intro (plainFor_of_name (by decide +kernel)) (Nat.le_of_ble_eq_true rfl) (fun K hKl C hr hnm hz0 => ?_)
  replace C : CxOK K E RX10 cX10_feed 2 := C
  have hE : E.1 + 1 ≤ (kS K).heap.size := by omega
  unfold fX10_feed
  show Aw K E _ _ _ _ _ 0 [(0, rf E a0), (1, .int a1)] [] h0 _
  refine aw_iload_n (pc := 0) C dX10_feed_0 rfl 1 rfl ?_
  refine aw_i2l (pc := 1) C dX10_feed_1 ?_
  refine aw_lconst (pc := 2) (v := 0) C dX10_feed_2 (by decide) ?_
  refine aw_ldc2 (pc := 3) (v := 127) C kc_X10_231 dX10_feed_3 ?_
  refine aw_callSI (pc := 6) (R := rmX10_feed) (As := [.long a1.toInt64, .long 0, .long 127]) (rest := []) (st := [.long 127, .long 0, .long a1.toInt64]) (c' := 0) (s' := 0) C hE cal_X10_in ml_X10_96 rfl ⟨(Nat.le_of_ble_eq_true rfl), (Nat.le_of_ble_eq_true rfl)⟩ ⟨(Nat.le_of_ble_eq_true rfl), (Nat.le_of_ble_eq_true rfl)⟩ dX10_feed_6 (okX10_in E (kL K) a1.toInt64 0 127 h0) rfl (Nat.le_of_ble_eq_true rfl) rfl rfl (fun v2 h1 eh1 => ?_)
  refine aw_if_ne (pc := 9) C 15 dX10_feed_9 (by decide) (fun c11 => ?_) (fun c11 => ?_)
  · refine aw_bipush (pc := 12) (v := (-2)) C dX10_feed_12 (by decide) ?_
    exact aw_ireturn (pc := 14) C hr rfl hz0 rfl dX10_feed_14
  refine aw_aload_n (pc := 15) C dX10_feed_15 rfl 0 rfl ?_
  refine aw_getI (pc := 16) C fl_X10_233 dX10_feed_16 (fun v3 ev3 => ?_)
  refine aw_bipush (pc := 19) (v := 100) C dX10_feed_19 (by decide) ?_
  refine aw_icmp_ne (pc := 21) C 27 dX10_feed_21 (by decide) (fun c10 => ?_) (fun c10 => ?_)
  · refine aw_bipush (pc := 24) (v := (-4)) C dX10_feed_24 (by decide) ?_
    exact aw_ireturn (pc := 26) C hr rfl hz0 rfl dX10_feed_26
  refine aw_aload_n (pc := 27) C dX10_feed_27 rfl 0 rfl ?_
  refine aw_getR (pc := 28) C fl_X10_72 dX10_feed_28 (fun v4 ev4 => ?_)
  refine aw_aload_n (pc := 31) C dX10_feed_31 rfl 0 rfl ?_
  refine aw_getI (pc := 32) C fl_X10_233 dX10_feed_32 (fun v5 ev5 => ?_)
  refine aw_iload_n (pc := 35) C dX10_feed_35 rfl 1 rfl ?_
  refine aw_iastore (pc := 36) C dX10_feed_36 (fun h6 eh6 => ?_)
  refine aw_aload_n (pc := 37) C dX10_feed_37 rfl 0 rfl ?_
  refine aw_dup (pc := 38) C rfl dX10_feed_38 ?_
  refine aw_getI (pc := 39) C fl_X10_233 dX10_feed_39 (fun v7 ev7 => ?_)
  refine aw_iconst (pc := 42) (v := 1) C dX10_feed_42 (by decide) ?_
  refine aw_iadd (pc := 43) C dX10_feed_43 ?_
  refine aw_putI (pc := 44) C fw_X10_233 rfl rfl dX10_feed_44 (fun h8 eh8 => ?_)
  refine aw_aload_n (pc := 47) C dX10_feed_47 rfl 0 rfl ?_
  refine aw_getI (pc := 48) C fl_X10_233 dX10_feed_48 (fun v9 ev9 => ?_)
  exact aw_ireturn (pc := 51) C hr rfl hz0 rfl dX10_feed_51
def rmX10_here : Room := { frames := 0, cells := 0, slots := 0, locals := 0 }
set_option maxHeartbeats 4000000 in
set_option maxRecDepth 100000 in
theorem okX10_here (E : Ev) (l : Launch) (a0 : Nat) (h0 : Mem) : AMet E l yX10_here cX10_here 1 (some (.int)) rmX10_here [rf E a0] h0 rvI (fX10_here a0 h0) := by
  refine am_intro (plainFor_of_name (by decide +kernel)) (Nat.le_of_ble_eq_true rfl) (fun K hKl C hr hnm hz0 => ?_)
  replace C : CxOK K E RX10 cX10_here 1 := C
  have hE : E.1 + 1 ≤ (kS K).heap.size := by omega
  unfold fX10_here
  show Aw K E _ _ _ _ _ 0 [(0, rf E a0)] [] h0 _
  refine aw_aload_n (pc := 0) C dX10_here_0 rfl 0 rfl ?_
  refine aw_getI (pc := 1) C fl_X10_236 dX10_here_1 (fun v1 ev1 => ?_)
  refine aw_aload_n (pc := 4) C dX10_here_4 rfl 0 rfl ?_
  refine aw_getI (pc := 5) C fl_X10_233 dX10_here_5 (fun v2 ev2 => ?_)
  refine aw_icmp_ge (pc := 8) C 23 dX10_here_8 (by decide) (fun c6 => ?_) (fun c6 => ?_)
  · refine aw_iconst (pc := 23) (v := (-1)) C dX10_here_23 (by decide) ?_
    exact aw_ireturn (pc := 24) C hr rfl hz0 rfl dX10_here_24
  refine aw_aload_n (pc := 11) C dX10_here_11 rfl 0 rfl ?_
  refine aw_getR (pc := 12) C fl_X10_72 dX10_here_12 (fun v3 ev3 => ?_)
  refine aw_aload_n (pc := 15) C dX10_here_15 rfl 0 rfl ?_
  refine aw_getI (pc := 16) C fl_X10_236 dX10_here_16 (fun v4 ev4 => ?_)
  refine aw_iaload (pc := 19) C dX10_here_19 (fun v5 ev5 => ?_)
  refine aw_goto (pc := 20) C 24 dX10_here_20 (by decide) ?_
  exact aw_ireturn (pc := 24) C hr rfl hz0 rfl dX10_here_24
def rmX10_isDigit : Room := { frames := 1, cells := 0, slots := 0, locals := 25 }
set_option maxHeartbeats 4000000 in
set_option maxRecDepth 100000 in
theorem okX10_isDigit (E : Ev) (l : Launch) (a0 : Nat) (h0 : Mem) : AMet E l yX10_isDigit cX10_isDigit 1 (some (.boolean)) rmX10_isDigit [rf E a0] h0 rvI (fX10_isDigit a0 h0) := by
  refine am_intro (plainFor_of_name (by decide +kernel)) (Nat.le_of_ble_eq_true rfl) (fun K hKl C hr hnm hz0 => ?_)
  replace C : CxOK K E RX10 cX10_isDigit 1 := C
  have hE : E.1 + 1 ≤ (kS K).heap.size := by omega
  unfold fX10_isDigit
  show Aw K E _ _ _ _ _ 0 [(0, rf E a0)] [] h0 _
  refine aw_aload_n (pc := 0) C dX10_isDigit_0 rfl 0 rfl ?_
  refine aw_callVI (pc := 1) (R := rmX10_isDigit) (c := 10) (As := []) (rest := []) (st := [rf E a0]) (c' := 0) (s' := 0) C hE rfl (by decide) cal_X10_here ml_X10_239 rfl ⟨(Nat.le_of_ble_eq_true rfl), (Nat.le_of_ble_eq_true rfl)⟩ ⟨(Nat.le_of_ble_eq_true rfl), (Nat.le_of_ble_eq_true rfl)⟩ dX10_isDigit_1 (okX10_here E (kL K) a0 h0) rfl (Nat.le_of_ble_eq_true rfl) rfl rfl (fun v2 h1 eh1 => ?_)
  refine aw_i2l (pc := 4) C dX10_isDigit_4 ?_
  refine aw_ldc2 (pc := 5) (v := 48) C kc_X10_242 dX10_isDigit_5 ?_
  refine aw_ldc2 (pc := 8) (v := 57) C kc_X10_244 dX10_isDigit_8 ?_
  refine aw_callSI (pc := 11) (R := rmX10_isDigit) (As := [.long v2.toInt64, .long 48, .long 57]) (rest := []) (st := [.long 57, .long 48, .long v2.toInt64]) (c' := 0) (s' := 0) C hE cal_X10_in ml_X10_96 rfl ⟨(Nat.le_of_ble_eq_true rfl), (Nat.le_of_ble_eq_true rfl)⟩ ⟨(Nat.le_of_ble_eq_true rfl), (Nat.le_of_ble_eq_true rfl)⟩ dX10_isDigit_11 (okX10_in E (kL K) v2.toInt64 48 57 h1) rfl (Nat.le_of_ble_eq_true rfl) rfl rfl (fun v4 h3 eh3 => ?_)
  exact aw_zreturn (pc := 14) C hr hz0 rfl dX10_isDigit_14
def rmX10_readsDigit : Room := { frames := 2, cells := 0, slots := 0, locals := 45 }
set_option maxHeartbeats 4000000 in
set_option maxRecDepth 100000 in
theorem okX10_readsDigit (E : Ev) (l : Launch) (a0 : Nat) (a1 : Int32) (h0 : Mem) : AMet E l yX10_readsDigit cX10_readsDigit 2 (some (.boolean)) rmX10_readsDigit [rf E a0, .int a1] h0 rvI (fX10_readsDigit a0 a1 h0) := by
  refine am_intro (plainFor_of_name (by decide +kernel)) (Nat.le_of_ble_eq_true rfl) (fun K hKl C hr hnm hz0 => ?_)
  replace C : CxOK K E RX10 cX10_readsDigit 2 := C
  have hE : E.1 + 1 ≤ (kS K).heap.size := by omega
  unfold fX10_readsDigit
  show Aw K E _ _ _ _ _ 0 [(0, rf E a0), (1, .int a1)] [] h0 _
  refine aw_aload_n (pc := 0) C dX10_readsDigit_0 rfl 0 rfl ?_
  refine aw_callVI (pc := 1) (R := rmX10_readsDigit) (c := 10) (As := []) (rest := []) (st := [rf E a0]) (c' := 0) (s' := 0) C hE rfl (by decide) cal_X10_isDigit ml_X10_246 rfl ⟨(Nat.le_of_ble_eq_true rfl), (Nat.le_of_ble_eq_true rfl)⟩ ⟨(Nat.le_of_ble_eq_true rfl), (Nat.le_of_ble_eq_true rfl)⟩ dX10_readsDigit_1 (okX10_isDigit E (kL K) a0 h0) rfl (Nat.le_of_ble_eq_true rfl) rfl rfl (fun v2 h1 eh1 => ?_)
  refine aw_if_ne (pc := 4) C 9 dX10_readsDigit_4 (by decide) (fun c9 => ?_) (fun c9 => ?_)
  · refine aw_iconst (pc := 7) (v := 0) C dX10_readsDigit_7 (by decide) ?_
    exact aw_ireturn (pc := 8) C hr rfl hz0 rfl dX10_readsDigit_8
  refine aw_aload_n (pc := 9) C dX10_readsDigit_9 rfl 0 rfl ?_
  refine aw_getR (pc := 10) C fl_X10_75 dX10_readsDigit_10 (fun v3 ev3 => ?_)
  refine aw_iload_n (pc := 13) C dX10_readsDigit_13 rfl 1 rfl ?_
  refine aw_aload_n (pc := 14) C dX10_readsDigit_14 rfl 0 rfl ?_
  refine aw_callVI (pc := 15) (R := rmX10_readsDigit) (c := 10) (As := []) (rest := [.int a1, rf E v3]) (st := [rf E a0, .int a1, rf E v3]) (c' := 0) (s' := 0) C hE rfl (by decide) cal_X10_here ml_X10_239 rfl ⟨(Nat.le_of_ble_eq_true rfl), (Nat.le_of_ble_eq_true rfl)⟩ ⟨(Nat.le_of_ble_eq_true rfl), (Nat.le_of_ble_eq_true rfl)⟩ dX10_readsDigit_15 (okX10_here E (kL K) a0 h1) rfl (Nat.le_of_ble_eq_true rfl) rfl rfl (fun v5 h4 eh4 => ?_)
  refine aw_bipush (pc := 18) (v := 48) C dX10_readsDigit_18 (by decide) ?_
  refine aw_isub (pc := 20) C dX10_readsDigit_20 ?_
  refine aw_iastore (pc := 21) C dX10_readsDigit_21 (fun h6 eh6 => ?_)
  refine aw_aload_n (pc := 22) C dX10_readsDigit_22 rfl 0 rfl ?_
  refine aw_dup (pc := 23) C rfl dX10_readsDigit_23 ?_
  refine aw_getI (pc := 24) C fl_X10_236 dX10_readsDigit_24 (fun v7 ev7 => ?_)
  refine aw_iconst (pc := 27) (v := 1) C dX10_readsDigit_27 (by decide) ?_
  refine aw_iadd (pc := 28) C dX10_readsDigit_28 ?_
  refine aw_putI (pc := 29) C fw_X10_236 rfl rfl dX10_readsDigit_29 (fun h8 eh8 => ?_)
  refine aw_iconst (pc := 32) (v := 1) C dX10_readsDigit_32 (by decide) ?_
  exact aw_ireturn (pc := 33) C hr rfl hz0 rfl dX10_readsDigit_33
def rmX10_readsNumber : Room := { frames := 2, cells := 0, slots := 0, locals := 45 }
set_option maxHeartbeats 4000000 in
set_option maxRecDepth 100000 in
theorem okX10_readsNumber (E : Ev) (l : Launch) (a0 : Nat) (a1 : Int32) (h0 : Mem) : AMet E l yX10_readsNumber cX10_readsNumber 5 (some (.boolean)) rmX10_readsNumber [rf E a0, .int a1] h0 rvI (fX10_readsNumber a0 a1 h0) := by
  refine am_intro (plainFor_of_name (by decide +kernel)) (Nat.le_of_ble_eq_true rfl) (fun K hKl C hr hnm hz0 => ?_)
  replace C : CxOK K E RX10 cX10_readsNumber 5 := C
  have hE : E.1 + 1 ≤ (kS K).heap.size := by omega
  unfold fX10_readsNumber
  show Aw K E _ _ _ _ _ 0 [(0, rf E a0), (1, .int a1)] [] h0 _
  refine aw_aload_n (pc := 0) C dX10_readsNumber_0 rfl 0 rfl ?_
  refine aw_callVI (pc := 1) (R := rmX10_readsNumber) (c := 10) (As := []) (rest := []) (st := [rf E a0]) (c' := 0) (s' := 0) C hE rfl (by decide) cal_X10_here ml_X10_239 rfl ⟨(Nat.le_of_ble_eq_true rfl), (Nat.le_of_ble_eq_true rfl)⟩ ⟨(Nat.le_of_ble_eq_true rfl), (Nat.le_of_ble_eq_true rfl)⟩ dX10_readsNumber_1 (okX10_here E (kL K) a0 h0) rfl (Nat.le_of_ble_eq_true rfl) rfl rfl (fun v2 h1 eh1 => ?_)
  refine aw_bipush (pc := 4) (v := 45) C dX10_readsNumber_4 (by decide) ?_
  refine aw_jn (σ := Int32) 14 (fun s => [(0, rf E a0), (1, .int a1)]) (fun s => [.int s]) (fun s => h1) (fun s => ?_) (fun k4 jk5 => ?_)
  · generalize s = v3
    show Aw K E _ _ _ _ _ 14 [(0, rf E a0), (1, .int a1)] [.int v3] h1 _
    refine aw_istore_n (pc := 14) (L' := [(2, .int v3), (0, rf E a0), (1, .int a1)]) C dX10_readsNumber_14 rfl (by decide) rfl ?_
    refine aw_aload_n (pc := 15) C dX10_readsNumber_15 rfl 1 rfl ?_
    refine aw_dup (pc := 16) C rfl dX10_readsNumber_16 ?_
    refine aw_getI (pc := 17) C fl_X10_236 dX10_readsNumber_17 (fun v6 ev6 => ?_)
    refine aw_iload_n (pc := 20) C dX10_readsNumber_20 rfl 0 rfl ?_
    refine aw_jn (σ := Int32) 29 (fun s => [(0, rf E a0), (1, .int a1), (2, .int v3)]) (fun s => [.int s, .int v6, rf E a0]) (fun s => h1) (fun s => ?_) (fun k8 jk9 => ?_)
    · generalize s = v7
      show Aw K E _ _ _ _ _ 29 [(0, rf E a0), (1, .int a1), (2, .int v3)] [.int v7, .int v6, rf E a0] h1 _
      refine aw_iadd (pc := 29) C dX10_readsNumber_29 ?_
      refine aw_putI (pc := 30) C fw_X10_236 rfl rfl dX10_readsNumber_30 (fun h10 eh10 => ?_)
      refine aw_aload_n (pc := 33) C dX10_readsNumber_33 rfl 0 rfl ?_
      refine aw_callVI (pc := 34) (R := rmX10_readsNumber) (c := 10) (As := []) (rest := []) (st := [rf E a0]) (c' := 0) (s' := 0) C hE rfl (by decide) cal_X10_isDigit ml_X10_246 rfl ⟨(Nat.le_of_ble_eq_true rfl), (Nat.le_of_ble_eq_true rfl)⟩ ⟨(Nat.le_of_ble_eq_true rfl), (Nat.le_of_ble_eq_true rfl)⟩ dX10_readsNumber_34 (okX10_isDigit E (kL K) a0 h10) rfl (Nat.le_of_ble_eq_true rfl) rfl rfl (fun v12 h11 eh11 => ?_)
      refine aw_if_ne (pc := 37) C 42 dX10_readsNumber_37 (by decide) (fun c35 => ?_) (fun c35 => ?_)
      · refine aw_iconst (pc := 40) (v := 0) C dX10_readsNumber_40 (by decide) ?_
        exact aw_ireturn (pc := 41) C hr rfl hz0 rfl dX10_readsNumber_41
      refine aw_iconst (pc := 42) (v := 0) C dX10_readsNumber_42 (by decide) ?_
      refine aw_istore_n (pc := 43) (L' := [(3, .int 0), (0, rf E a0), (1, .int a1), (2, .int v3)]) C dX10_readsNumber_43 rfl (by decide) rfl ?_
      refine aw_iconst (pc := 44) (v := 0) C dX10_readsNumber_44 (by decide) ?_
      refine aw_istore (pc := 45) (L' := [(4, .int 0), (3, .int 0), (0, rf E a0), (1, .int a1), (2, .int v3)]) C dX10_readsNumber_45 (by decide) rfl ?_
      refine aw_sub (L' := [(0, rf E a0), (1, .int a1), (2, .int v3), (3, .int 0), (4, .int 0)]) [2, 3, 4, 1, 0] rfl ?_
      refine aw_loop (pc := 47) (σ := Int32 × Int32 × Mem) (fun s => [(0, rf E a0), (1, .int a1), (2, .int v3), (3, .int s.1), (4, .int s.2.1)]) (fun s => s.2.2) _ (fun k16 ih17 s => ?_) _ _
      obtain ⟨v13, v14, h15⟩ := s
      show Aw K E _ _ _ _ _ 47 [(0, rf E a0), (1, .int a1), (2, .int v3), (3, .int v13), (4, .int v14)] [] h15 _
      refine aw_iload (pc := 47) C dX10_readsNumber_47 4 rfl ?_
      refine aw_iconst (pc := 49) (v := 4) C dX10_readsNumber_49 (by decide) ?_
      refine aw_jn (σ := Mem) 89 (fun s => [(0, rf E a0), (1, .int a1), (2, .int v3), (3, .int v13)]) (fun s => []) (fun s => s) (fun s => ?_) (fun k19 jk20 => ?_)
      · generalize s = h18
        show Aw K E _ _ _ _ _ 89 [(0, rf E a0), (1, .int a1), (2, .int v3), (3, .int v13)] [] h18 _
        refine aw_aload_n (pc := 89) C dX10_readsNumber_89 rfl 0 rfl ?_
        refine aw_getR (pc := 90) C fl_X10_75 dX10_readsNumber_90 (fun v21 ev21 => ?_)
        refine aw_iload_n (pc := 93) C dX10_readsNumber_93 rfl 1 rfl ?_
        refine aw_iload_n (pc := 94) C dX10_readsNumber_94 rfl 2 rfl ?_
        refine aw_if_eq (pc := 95) C 103 dX10_readsNumber_95 (by decide) (fun c24 => ?_) (fun c24 => ?_)
        · refine aw_iload_n (pc := 103) C dX10_readsNumber_103 rfl 3 rfl ?_
          refine aw_iastore (pc := 104) C dX10_readsNumber_104 (fun h23 eh23 => ?_)
          refine aw_iconst (pc := 105) (v := 1) C dX10_readsNumber_105 (by decide) ?_
          exact aw_ireturn (pc := 106) C hr rfl hz0 rfl dX10_readsNumber_106
        refine aw_iload_n (pc := 98) C dX10_readsNumber_98 rfl 3 rfl ?_
        refine aw_ineg (pc := 99) C dX10_readsNumber_99 ?_
        refine aw_goto (pc := 100) C 104 dX10_readsNumber_100 (by decide) ?_
        refine aw_iastore (pc := 104) C dX10_readsNumber_104 (fun h22 eh22 => ?_)
        refine aw_iconst (pc := 105) (v := 1) C dX10_readsNumber_105 (by decide) ?_
        exact aw_ireturn (pc := 106) C hr rfl hz0 rfl dX10_readsNumber_106
      refine aw_icmp_ge (pc := 50) C 89 dX10_readsNumber_50 (by decide) (fun c34 => ?_) (fun c34 => ?_)
      · exact aw_sub (L' := [(0, rf E a0), (1, .int a1), (2, .int v3), (3, .int v13)]) [0, 1, 2, 3] rfl (jk20 h15)
      refine aw_aload_n (pc := 53) C dX10_readsNumber_53 rfl 0 rfl ?_
      refine aw_callVI (pc := 54) (R := rmX10_readsNumber) (c := 10) (As := []) (rest := []) (st := [rf E a0]) (c' := 0) (s' := 0) C hE rfl (by decide) cal_X10_isDigit ml_X10_246 rfl ⟨(Nat.le_of_ble_eq_true rfl), (Nat.le_of_ble_eq_true rfl)⟩ ⟨(Nat.le_of_ble_eq_true rfl), (Nat.le_of_ble_eq_true rfl)⟩ dX10_readsNumber_54 (okX10_isDigit E (kL K) a0 h15) rfl (Nat.le_of_ble_eq_true rfl) rfl rfl (fun v26 h25 eh25 => ?_)
      refine aw_if_eq (pc := 57) C 89 dX10_readsNumber_57 (by decide) (fun c33 => ?_) (fun c33 => ?_)
      · exact aw_sub (L' := [(0, rf E a0), (1, .int a1), (2, .int v3), (3, .int v13)]) [0, 1, 2, 3] rfl (jk20 h25)
      refine aw_bipush (pc := 60) (v := 10) C dX10_readsNumber_60 (by decide) ?_
      refine aw_iload_n (pc := 62) C dX10_readsNumber_62 rfl 3 rfl ?_
      refine aw_imul (pc := 63) C dX10_readsNumber_63 ?_
      refine aw_aload_n (pc := 64) C dX10_readsNumber_64 rfl 0 rfl ?_
      refine aw_callVI (pc := 65) (R := rmX10_readsNumber) (c := 10) (As := []) (rest := [.int (10 * v13)]) (st := [rf E a0, .int (10 * v13)]) (c' := 0) (s' := 0) C hE rfl (by decide) cal_X10_here ml_X10_239 rfl ⟨(Nat.le_of_ble_eq_true rfl), (Nat.le_of_ble_eq_true rfl)⟩ ⟨(Nat.le_of_ble_eq_true rfl), (Nat.le_of_ble_eq_true rfl)⟩ dX10_readsNumber_65 (okX10_here E (kL K) a0 h25) rfl (Nat.le_of_ble_eq_true rfl) rfl rfl (fun v28 h27 eh27 => ?_)
      refine aw_iadd (pc := 68) C dX10_readsNumber_68 ?_
      refine aw_bipush (pc := 69) (v := 48) C dX10_readsNumber_69 (by decide) ?_
      refine aw_isub (pc := 71) C dX10_readsNumber_71 ?_
      refine aw_nmI (pc := 72) (fun v29 ev29 => ?_)
      refine aw_istore_n (pc := 72) (L' := [(3, .int v29), (0, rf E a0), (1, .int a1), (2, .int v3), (4, .int v14)]) C dX10_readsNumber_72 rfl (by decide) rfl ?_
      refine aw_aload_n (pc := 73) C dX10_readsNumber_73 rfl 1 rfl ?_
      refine aw_dup (pc := 74) C rfl dX10_readsNumber_74 ?_
      refine aw_getI (pc := 75) C fl_X10_236 dX10_readsNumber_75 (fun v30 ev30 => ?_)
      refine aw_iconst (pc := 78) (v := 1) C dX10_readsNumber_78 (by decide) ?_
      refine aw_iadd (pc := 79) C dX10_readsNumber_79 ?_
      refine aw_putI (pc := 80) C fw_X10_236 rfl rfl dX10_readsNumber_80 (fun h31 eh31 => ?_)
      refine aw_iincN (pc := 83) (L1 := [(3, .int v29), (0, rf E a0), (1, .int a1), (2, .int v3)]) (k := 1) C dX10_readsNumber_83 4 rfl (by decide) (by decide) rfl (fun v32 ev32 => ?_)
      refine aw_goto (pc := 86) C 47 dX10_readsNumber_86 (by decide) ?_
      exact aw_sub (L' := [(0, rf E a0), (1, .int a1), (2, .int v3), (3, .int v29), (4, .int v32)]) [2, 3, 4, 1, 0] rfl (ih17 (v29, v32, h31))
    refine aw_if_eq (pc := 21) C 28 dX10_readsNumber_21 (by decide) (fun c36 => ?_) (fun c36 => ?_)
    · refine aw_iconst (pc := 28) (v := 0) C dX10_readsNumber_28 (by decide) ?_
      exact aw_sub (L' := [(0, rf E a0), (1, .int a1), (2, .int v3)]) [1, 2, 0] rfl (jk9 0)
    refine aw_iconst (pc := 24) (v := 1) C dX10_readsNumber_24 (by decide) ?_
    refine aw_goto (pc := 25) C 29 dX10_readsNumber_25 (by decide) ?_
    exact aw_sub (L' := [(0, rf E a0), (1, .int a1), (2, .int v3)]) [1, 2, 0] rfl (jk9 1)
  refine aw_icmp_ne (pc := 6) C 13 dX10_readsNumber_6 (by decide) (fun c37 => ?_) (fun c37 => ?_)
  · refine aw_iconst (pc := 9) (v := 1) C dX10_readsNumber_9 (by decide) ?_
    refine aw_goto (pc := 10) C 14 dX10_readsNumber_10 (by decide) ?_
    exact aw_sub (L' := [(0, rf E a0), (1, .int a1)]) [0, 1] rfl (jk5 1)
  refine aw_iconst (pc := 13) (v := 0) C dX10_readsNumber_13 (by decide) ?_
  exact aw_sub (L' := [(0, rf E a0), (1, .int a1)]) [0, 1] rfl (jk5 0)
def rmX10_readsClause : Room := { frames := 3, cells := 0, slots := 0, locals := 69 }
set_option maxHeartbeats 4000000 in
set_option maxRecDepth 100000 in
theorem okX10_readsClause (E : Ev) (l : Launch) (a0 : Nat) (a1 : Int32) (h0 : Mem) : AMet E l yX10_readsClause cX10_readsClause 3 (some (.boolean)) rmX10_readsClause [rf E a0, .int a1] h0 rvI (fX10_readsClause a0 a1 h0) := by
  refine am_intro (plainFor_of_name (by decide +kernel)) (Nat.le_of_ble_eq_true rfl) (fun K hKl C hr hnm hz0 => ?_)
  replace C : CxOK K E RX10 cX10_readsClause 3 := C
  have hE : E.1 + 1 ≤ (kS K).heap.size := by omega
  unfold fX10_readsClause
  show Aw K E _ _ _ _ _ 0 [(0, rf E a0), (1, .int a1)] [] h0 _
  refine aw_aload_n (pc := 0) C dX10_readsClause_0 rfl 0 rfl ?_
  refine aw_callVI (pc := 1) (R := rmX10_readsClause) (c := 10) (As := []) (rest := []) (st := [rf E a0]) (c' := 0) (s' := 0) C hE rfl (by decide) cal_X10_here ml_X10_239 rfl ⟨(Nat.le_of_ble_eq_true rfl), (Nat.le_of_ble_eq_true rfl)⟩ ⟨(Nat.le_of_ble_eq_true rfl), (Nat.le_of_ble_eq_true rfl)⟩ dX10_readsClause_1 (okX10_here E (kL K) a0 h0) rfl (Nat.le_of_ble_eq_true rfl) rfl rfl (fun v2 h1 eh1 => ?_)
  refine aw_istore_n (pc := 4) (L' := [(2, .int v2), (0, rf E a0), (1, .int a1)]) C dX10_readsClause_4 rfl (by decide) rfl ?_
  refine aw_iload_n (pc := 5) C dX10_readsClause_5 rfl 0 rfl ?_
  refine aw_bipush (pc := 6) (v := 100) C dX10_readsClause_6 (by decide) ?_
  refine aw_jn (σ := Unit) 37 (fun s => [(0, rf E a0), (1, .int a1), (2, .int v2)]) (fun s => []) (fun s => h1) (fun s => ?_) (fun k3 jk4 => ?_)
  · show Aw K E _ _ _ _ _ 37 [(0, rf E a0), (1, .int a1), (2, .int v2)] [] h1 _
    refine aw_aload_n (pc := 37) C dX10_readsClause_37 rfl 0 rfl ?_
    refine aw_getR (pc := 38) C fl_X10_75 dX10_readsClause_38 (fun v5 ev5 => ?_)
    refine aw_iconst (pc := 41) (v := 3) C dX10_readsClause_41 (by decide) ?_
    refine aw_iload_n (pc := 42) C dX10_readsClause_42 rfl 1 rfl ?_
    refine aw_imul (pc := 43) C dX10_readsClause_43 ?_
    refine aw_iload_n (pc := 44) C dX10_readsClause_44 rfl 2 rfl ?_
    refine aw_iastore (pc := 45) C dX10_readsClause_45 (fun h6 eh6 => ?_)
    refine aw_aload_n (pc := 46) C dX10_readsClause_46 rfl 0 rfl ?_
    refine aw_dup (pc := 47) C rfl dX10_readsClause_47 ?_
    refine aw_getI (pc := 48) C fl_X10_236 dX10_readsClause_48 (fun v7 ev7 => ?_)
    refine aw_iconst (pc := 51) (v := 1) C dX10_readsClause_51 (by decide) ?_
    refine aw_iadd (pc := 52) C dX10_readsClause_52 ?_
    refine aw_putI (pc := 53) C fw_X10_236 rfl rfl dX10_readsClause_53 (fun h8 eh8 => ?_)
    refine aw_iload_n (pc := 56) C dX10_readsClause_56 rfl 2 rfl ?_
    refine aw_bipush (pc := 57) (v := 61) C dX10_readsClause_57 (by decide) ?_
    refine aw_jn (σ := Mem) 82 (fun s => [(0, rf E a0), (1, .int a1), (2, .int v2)]) (fun s => []) (fun s => s) (fun s => ?_) (fun k10 jk11 => ?_)
    · generalize s = h9
      show Aw K E _ _ _ _ _ 82 [(0, rf E a0), (1, .int a1), (2, .int v2)] [] h9 _
      refine aw_iload_n (pc := 82) C dX10_readsClause_82 rfl 2 rfl ?_
      refine aw_bipush (pc := 83) (v := 100) C dX10_readsClause_83 (by decide) ?_
      refine aw_icmp_eq (pc := 85) C 106 dX10_readsClause_85 (by decide) (fun c16 => ?_) (fun c16 => ?_)
      · refine aw_iconst (pc := 106) (v := 1) C dX10_readsClause_106 (by decide) ?_
        refine aw_goto (pc := 107) C 111 dX10_readsClause_107 (by decide) ?_
        exact aw_ireturn (pc := 111) C hr rfl hz0 rfl dX10_readsClause_111
      refine aw_iload_n (pc := 88) C dX10_readsClause_88 rfl 2 rfl ?_
      refine aw_bipush (pc := 89) (v := 116) C dX10_readsClause_89 (by decide) ?_
      refine aw_icmp_eq (pc := 91) C 106 dX10_readsClause_91 (by decide) (fun c15 => ?_) (fun c15 => ?_)
      · refine aw_iconst (pc := 106) (v := 1) C dX10_readsClause_106 (by decide) ?_
        refine aw_goto (pc := 107) C 111 dX10_readsClause_107 (by decide) ?_
        exact aw_ireturn (pc := 111) C hr rfl hz0 rfl dX10_readsClause_111
      refine aw_aload_n (pc := 94) C dX10_readsClause_94 rfl 0 rfl ?_
      refine aw_iconst (pc := 95) (v := 3) C dX10_readsClause_95 (by decide) ?_
      refine aw_iload_n (pc := 96) C dX10_readsClause_96 rfl 1 rfl ?_
      refine aw_imul (pc := 97) C dX10_readsClause_97 ?_
      refine aw_iconst (pc := 98) (v := 2) C dX10_readsClause_98 (by decide) ?_
      refine aw_iadd (pc := 99) C dX10_readsClause_99 ?_
      refine aw_callVI (pc := 100) (R := rmX10_readsClause) (c := 10) (As := [.int ((3 * a1) + 2)]) (rest := []) (st := [.int ((3 * a1) + 2), rf E a0]) (c' := 0) (s' := 0) C hE rfl (by decide) cal_X10_readsNumber ml_X10_252 rfl ⟨(Nat.le_of_ble_eq_true rfl), (Nat.le_of_ble_eq_true rfl)⟩ ⟨(Nat.le_of_ble_eq_true rfl), (Nat.le_of_ble_eq_true rfl)⟩ dX10_readsClause_100 (okX10_readsNumber E (kL K) a0 ((3 * a1) + 2) h9) rfl (Nat.le_of_ble_eq_true rfl) rfl rfl (fun v13 h12 eh12 => ?_)
      refine aw_if_eq (pc := 103) C 110 dX10_readsClause_103 (by decide) (fun c14 => ?_) (fun c14 => ?_)
      · refine aw_iconst (pc := 110) (v := 0) C dX10_readsClause_110 (by decide) ?_
        exact aw_ireturn (pc := 111) C hr rfl hz0 rfl dX10_readsClause_111
      refine aw_iconst (pc := 106) (v := 1) C dX10_readsClause_106 (by decide) ?_
      refine aw_goto (pc := 107) C 111 dX10_readsClause_107 (by decide) ?_
      exact aw_ireturn (pc := 111) C hr rfl hz0 rfl dX10_readsClause_111
    refine aw_icmp_eq (pc := 59) C 82 dX10_readsClause_59 (by decide) (fun c21 => ?_) (fun c21 => ?_)
    · exact aw_sub (L' := [(0, rf E a0), (1, .int a1), (2, .int v2)]) [0, 1, 2] rfl (jk11 h8)
    refine aw_iload_n (pc := 62) C dX10_readsClause_62 rfl 2 rfl ?_
    refine aw_bipush (pc := 63) (v := 119) C dX10_readsClause_63 (by decide) ?_
    refine aw_icmp_eq (pc := 65) C 82 dX10_readsClause_65 (by decide) (fun c20 => ?_) (fun c20 => ?_)
    · exact aw_sub (L' := [(0, rf E a0), (1, .int a1), (2, .int v2)]) [0, 1, 2] rfl (jk11 h8)
    refine aw_aload_n (pc := 68) C dX10_readsClause_68 rfl 0 rfl ?_
    refine aw_iconst (pc := 69) (v := 3) C dX10_readsClause_69 (by decide) ?_
    refine aw_iload_n (pc := 70) C dX10_readsClause_70 rfl 1 rfl ?_
    refine aw_imul (pc := 71) C dX10_readsClause_71 ?_
    refine aw_iconst (pc := 72) (v := 1) C dX10_readsClause_72 (by decide) ?_
    refine aw_iadd (pc := 73) C dX10_readsClause_73 ?_
    refine aw_callVI (pc := 74) (R := rmX10_readsClause) (c := 10) (As := [.int ((3 * a1) + 1)]) (rest := []) (st := [.int ((3 * a1) + 1), rf E a0]) (c' := 0) (s' := 0) C hE rfl (by decide) cal_X10_readsDigit ml_X10_249 rfl ⟨(Nat.le_of_ble_eq_true rfl), (Nat.le_of_ble_eq_true rfl)⟩ ⟨(Nat.le_of_ble_eq_true rfl), (Nat.le_of_ble_eq_true rfl)⟩ dX10_readsClause_74 (okX10_readsDigit E (kL K) a0 ((3 * a1) + 1) h8) rfl (Nat.le_of_ble_eq_true rfl) rfl rfl (fun v18 h17 eh17 => ?_)
    refine aw_if_ne (pc := 77) C 82 dX10_readsClause_77 (by decide) (fun c19 => ?_) (fun c19 => ?_)
    · refine aw_iconst (pc := 80) (v := 0) C dX10_readsClause_80 (by decide) ?_
      exact aw_ireturn (pc := 81) C hr rfl hz0 rfl dX10_readsClause_81
    exact aw_sub (L' := [(0, rf E a0), (1, .int a1), (2, .int v2)]) [0, 1, 2] rfl (jk11 h17)
  refine aw_icmp_eq (pc := 8) C 37 dX10_readsClause_8 (by decide) (fun c26 => ?_) (fun c26 => ?_)
  · exact aw_sub (L' := [(0, rf E a0), (1, .int a1), (2, .int v2)]) [1, 2, 0] rfl (jk4 ())
  refine aw_iload_n (pc := 11) C dX10_readsClause_11 rfl 0 rfl ?_
  refine aw_bipush (pc := 12) (v := 97) C dX10_readsClause_12 (by decide) ?_
  refine aw_icmp_eq (pc := 14) C 37 dX10_readsClause_14 (by decide) (fun c25 => ?_) (fun c25 => ?_)
  · exact aw_sub (L' := [(0, rf E a0), (1, .int a1), (2, .int v2)]) [1, 2, 0] rfl (jk4 ())
  refine aw_iload_n (pc := 17) C dX10_readsClause_17 rfl 0 rfl ?_
  refine aw_bipush (pc := 18) (v := 61) C dX10_readsClause_18 (by decide) ?_
  refine aw_icmp_eq (pc := 20) C 37 dX10_readsClause_20 (by decide) (fun c24 => ?_) (fun c24 => ?_)
  · exact aw_sub (L' := [(0, rf E a0), (1, .int a1), (2, .int v2)]) [1, 2, 0] rfl (jk4 ())
  refine aw_iload_n (pc := 23) C dX10_readsClause_23 rfl 0 rfl ?_
  refine aw_bipush (pc := 24) (v := 119) C dX10_readsClause_24 (by decide) ?_
  refine aw_icmp_eq (pc := 26) C 37 dX10_readsClause_26 (by decide) (fun c23 => ?_) (fun c23 => ?_)
  · exact aw_sub (L' := [(0, rf E a0), (1, .int a1), (2, .int v2)]) [1, 2, 0] rfl (jk4 ())
  refine aw_iload_n (pc := 29) C dX10_readsClause_29 rfl 0 rfl ?_
  refine aw_bipush (pc := 30) (v := 116) C dX10_readsClause_30 (by decide) ?_
  refine aw_icmp_eq (pc := 32) C 37 dX10_readsClause_32 (by decide) (fun c22 => ?_) (fun c22 => ?_)
  · exact aw_sub (L' := [(0, rf E a0), (1, .int a1), (2, .int v2)]) [1, 2, 0] rfl (jk4 ())
  refine aw_iconst (pc := 35) (v := 0) C dX10_readsClause_35 (by decide) ?_
  exact aw_ireturn (pc := 36) C hr rfl hz0 rfl dX10_readsClause_36
def rmX10_does : Room := { frames := 4, cells := 0, slots := 0, locals := 98 }
set_option maxHeartbeats 4000000 in
set_option maxRecDepth 100000 in
theorem okX10_does (E : Ev) (l : Launch) (a0 : Nat) (a1 : Int32) (h0 : Mem) : AMet E l yX10_does cX10_does 4 (some (.int)) rmX10_does [rf E a0, .int a1] h0 rvI (fX10_does a0 a1 h0) := by
  refine am_intro (plainFor_of_name (by decide +kernel)) (Nat.le_of_ble_eq_true rfl) (fun K hKl C hr hnm hz0 => ?_)
  replace C : CxOK K E RX10 cX10_does 4 := C
  have hE : E.1 + 1 ≤ (kS K).heap.size := by omega
  unfold fX10_does
  show Aw K E _ _ _ _ _ 0 [(0, rf E a0), (1, .int a1)] [] h0 _
  refine aw_aload_n (pc := 0) C dX10_does_0 rfl 0 rfl ?_
  refine aw_getR (pc := 1) C fl_X10_75 dX10_does_1 (fun v1 ev1 => ?_)
  refine aw_iconst (pc := 4) (v := 3) C dX10_does_4 (by decide) ?_
  refine aw_iload_n (pc := 5) C dX10_does_5 rfl 1 rfl ?_
  refine aw_imul (pc := 6) C dX10_does_6 ?_
  refine aw_iconst (pc := 7) (v := 1) C dX10_does_7 (by decide) ?_
  refine aw_iadd (pc := 8) C dX10_does_8 ?_
  refine aw_iaload (pc := 9) C dX10_does_9 (fun v2 ev2 => ?_)
  refine aw_istore_n (pc := 10) (L' := [(2, .int v2), (0, rf E a0), (1, .int a1)]) C dX10_does_10 rfl (by decide) rfl ?_
  refine aw_aload_n (pc := 11) C dX10_does_11 rfl 1 rfl ?_
  refine aw_getR (pc := 12) C fl_X10_75 dX10_does_12 (fun v3 ev3 => ?_)
  refine aw_iconst (pc := 15) (v := 3) C dX10_does_15 (by decide) ?_
  refine aw_iload_n (pc := 16) C dX10_does_16 rfl 2 rfl ?_
  refine aw_imul (pc := 17) C dX10_does_17 ?_
  refine aw_iconst (pc := 18) (v := 2) C dX10_does_18 (by decide) ?_
  refine aw_iadd (pc := 19) C dX10_does_19 ?_
  refine aw_iaload (pc := 20) C dX10_does_20 (fun v4 ev4 => ?_)
  refine aw_istore_n (pc := 21) (L' := [(3, .int v4), (2, .int v2), (0, rf E a0), (1, .int a1)]) C dX10_does_21 rfl (by decide) rfl ?_
  refine aw_aload_n (pc := 22) C dX10_does_22 rfl 2 rfl ?_
  refine aw_getR (pc := 23) C fl_X10_75 dX10_does_23 (fun v5 ev5 => ?_)
  refine aw_iconst (pc := 26) (v := 3) C dX10_does_26 (by decide) ?_
  refine aw_iload_n (pc := 27) C dX10_does_27 rfl 3 rfl ?_
  refine aw_imul (pc := 28) C dX10_does_28 ?_
  refine aw_iaload (pc := 29) C dX10_does_29 (fun v6 ev6 => ?_)
  refine aw_case 61 (fun c7 => ?_) (fun c7 => ?_)
  · refine aw_lookup (pc := 30) (off := 55) C 85 dX10_does_30 (by decide +kernel) (by rw [c7]; decide +kernel) (by decide) ?_
    refine aw_aload_n (pc := 85) C dX10_does_85 rfl 2 rfl ?_
    refine aw_iload_n (pc := 86) C dX10_does_86 rfl 0 rfl ?_
    refine aw_callVI (pc := 87) (R := rmX10_does) (c := 10) (As := [.int v4]) (rest := []) (st := [.int v4, rf E a0]) (c' := 0) (s' := 0) C hE rfl (by decide) cal_X10_equal ml_X10_261 rfl ⟨(Nat.le_of_ble_eq_true rfl), (Nat.le_of_ble_eq_true rfl)⟩ ⟨(Nat.le_of_ble_eq_true rfl), (Nat.le_of_ble_eq_true rfl)⟩ dX10_does_87 (okX10_equal E (kL K) a0 v4 h0) rfl (Nat.le_of_ble_eq_true rfl) rfl rfl (fun v9 h8 eh8 => ?_)
    exact aw_ireturn (pc := 90) C hr rfl hz0 rfl dX10_does_90
  refine aw_case 97 (fun c10 => ?_) (fun c10 => ?_)
  · refine aw_lookup (pc := 30) (off := 48) C 78 dX10_does_30 (by decide +kernel) (by rw [c10]; decide +kernel) (by decide) ?_
    refine aw_aload_n (pc := 78) C dX10_does_78 rfl 2 rfl ?_
    refine aw_iload_n (pc := 79) C dX10_does_79 rfl 1 rfl ?_
    refine aw_iload_n (pc := 80) C dX10_does_80 rfl 0 rfl ?_
    refine aw_callVI (pc := 81) (R := rmX10_does) (c := 10) (As := [.int v2, .int v4]) (rest := []) (st := [.int v4, .int v2, rf E a0]) (c' := 0) (s' := 0) C hE rfl (by decide) cal_X10_number ml_X10_258 rfl ⟨(Nat.le_of_ble_eq_true rfl), (Nat.le_of_ble_eq_true rfl)⟩ ⟨(Nat.le_of_ble_eq_true rfl), (Nat.le_of_ble_eq_true rfl)⟩ dX10_does_81 (okX10_number E (kL K) a0 v2 v4 h0) rfl (Nat.le_of_ble_eq_true rfl) rfl rfl (fun v12 h11 eh11 => ?_)
    exact aw_ireturn (pc := 84) C hr rfl hz0 rfl dX10_does_84
  refine aw_case 100 (fun c13 => ?_) (fun c13 => ?_)
  · refine aw_lookup (pc := 30) (off := 42) C 72 dX10_does_30 (by decide +kernel) (by rw [c13]; decide +kernel) (by decide) ?_
    refine aw_aload_n (pc := 72) C dX10_does_72 rfl 2 rfl ?_
    refine aw_iload_n (pc := 73) C dX10_does_73 rfl 1 rfl ?_
    refine aw_callVI (pc := 74) (R := rmX10_does) (c := 10) (As := [.int v2]) (rest := []) (st := [.int v2, rf E a0]) (c' := 0) (s' := 0) C hE rfl (by decide) cal_X10_degree ml_X10_255 rfl ⟨(Nat.le_of_ble_eq_true rfl), (Nat.le_of_ble_eq_true rfl)⟩ ⟨(Nat.le_of_ble_eq_true rfl), (Nat.le_of_ble_eq_true rfl)⟩ dX10_does_74 (okX10_degree E (kL K) a0 v2 h0) rfl (Nat.le_of_ble_eq_true rfl) rfl rfl (fun v15 h14 eh14 => ?_)
    exact aw_ireturn (pc := 77) C hr rfl hz0 rfl dX10_does_77
  refine aw_case 119 (fun c16 => ?_) (fun c16 => ?_)
  · refine aw_lookup (pc := 30) (off := 61) C 91 dX10_does_30 (by decide +kernel) (by rw [c16]; decide +kernel) (by decide) ?_
    refine aw_aload_n (pc := 91) C dX10_does_91 rfl 2 rfl ?_
    refine aw_iload_n (pc := 92) C dX10_does_92 rfl 0 rfl ?_
    refine aw_callVI (pc := 93) (R := rmX10_does) (c := 10) (As := [.int v4]) (rest := []) (st := [.int v4, rf E a0]) (c' := 0) (s' := 0) C hE rfl (by decide) cal_X10_window ml_X10_264 rfl ⟨(Nat.le_of_ble_eq_true rfl), (Nat.le_of_ble_eq_true rfl)⟩ ⟨(Nat.le_of_ble_eq_true rfl), (Nat.le_of_ble_eq_true rfl)⟩ dX10_does_93 (okX10_window E (kL K) a0 v4 h0) rfl (Nat.le_of_ble_eq_true rfl) rfl rfl (fun v18 h17 eh17 => ?_)
    exact aw_ireturn (pc := 96) C hr rfl hz0 rfl dX10_does_96
  refine aw_lookup (pc := 30) (off := 67) C 97 dX10_does_30 (by decide +kernel) (by rw [lv_osw c7 (show (61 : Int32).toInt = 61 by decide)]; rw [lv_osw c10 (show (97 : Int32).toInt = 97 by decide)]; rw [lv_osw c13 (show (100 : Int32).toInt = 100 by decide)]; rw [lv_osw c16 (show (119 : Int32).toInt = 119 by decide)]; rfl) (by decide) ?_
  refine aw_aload_n (pc := 97) C dX10_does_97 rfl 2 rfl ?_
  refine aw_iload_n (pc := 98) C dX10_does_98 rfl 1 rfl ?_
  refine aw_callVI (pc := 99) (R := rmX10_does) (c := 10) (As := [.int v2]) (rest := []) (st := [.int v2, rf E a0]) (c' := 0) (s' := 0) C hE rfl (by decide) cal_X10_move ml_X10_267 rfl ⟨(Nat.le_of_ble_eq_true rfl), (Nat.le_of_ble_eq_true rfl)⟩ ⟨(Nat.le_of_ble_eq_true rfl), (Nat.le_of_ble_eq_true rfl)⟩ dX10_does_99 (okX10_move E (kL K) a0 v2 h0) rfl (Nat.le_of_ble_eq_true rfl) rfl rfl (fun v20 h19 eh19 => ?_)
  exact aw_ireturn (pc := 102) C hr rfl hz0 rfl dX10_does_102
def rmX10_read : Room := { frames := 5, cells := 0, slots := 0, locals := 121 }
set_option maxHeartbeats 4000000 in
set_option maxRecDepth 100000 in
theorem okX10_read (E : Ev) (l : Launch) (a0 : Nat) (h0 : Mem) : AMet E l yX10_read cX10_read 5 (some (.int)) rmX10_read [rf E a0] h0 rvI (fX10_read a0 h0) := by
  refine am_intro (plainFor_of_name (by decide +kernel)) (Nat.le_of_ble_eq_true rfl) (fun K hKl C hr hnm hz0 => ?_)
  replace C : CxOK K E RX10 cX10_read 5 := C
  have hE : E.1 + 1 ≤ (kS K).heap.size := by omega
  unfold fX10_read
  show Aw K E _ _ _ _ _ 0 [(0, rf E a0)] [] h0 _
  refine aw_aload_n (pc := 0) C dX10_read_0 rfl 0 rfl ?_
  refine aw_iconst (pc := 1) (v := 0) C dX10_read_1 (by decide) ?_
  refine aw_putI (pc := 2) C fw_X10_236 rfl rfl dX10_read_2 (fun h1 eh1 => ?_)
  refine aw_iconst (pc := 5) (v := 0) C dX10_read_5 (by decide) ?_
  refine aw_istore_n (pc := 6) (L' := [(1, .int 0), (0, rf E a0)]) C dX10_read_6 rfl (by decide) rfl ?_
  refine aw_aload_n (pc := 7) C dX10_read_7 rfl 1 rfl ?_
  refine aw_iconst (pc := 8) (v := 0) C dX10_read_8 (by decide) ?_
  refine aw_callVI (pc := 9) (R := rmX10_read) (c := 10) (As := [.int 0]) (rest := []) (st := [.int 0, rf E a0]) (c' := 0) (s' := 0) C hE rfl (by decide) cal_X10_readsClause ml_X10_270 rfl ⟨(Nat.le_of_ble_eq_true rfl), (Nat.le_of_ble_eq_true rfl)⟩ ⟨(Nat.le_of_ble_eq_true rfl), (Nat.le_of_ble_eq_true rfl)⟩ dX10_read_9 (okX10_readsClause E (kL K) a0 0 h1) rfl (Nat.le_of_ble_eq_true rfl) rfl rfl (fun v3 h2 eh2 => ?_)
  refine aw_istore_n (pc := 12) (L' := [(2, .int v3), (1, .int 0), (0, rf E a0)]) C dX10_read_12 rfl (by decide) rfl ?_
  refine aw_sub (L' := [(0, rf E a0), (1, .int 0), (2, .int v3)]) [2, 1, 0] rfl ?_
  refine aw_loop (pc := 13) (σ := Int32 × Int32 × Mem) (fun s => [(0, rf E a0), (1, .int s.1), (2, .int s.2.1)]) (fun s => s.2.2) _ (fun k7 ih8 s => ?_) _ _
  obtain ⟨v4, v5, h6⟩ := s
  show Aw K E _ _ _ _ _ 13 [(0, rf E a0), (1, .int v4), (2, .int v5)] [] h6 _
  refine aw_iload_n (pc := 13) C dX10_read_13 rfl 2 rfl ?_
  refine aw_jn (σ := Mem) 56 (fun s => [(0, rf E a0), (1, .int v4), (2, .int v5)]) (fun s => []) (fun s => s) (fun s => ?_) (fun k10 jk11 => ?_)
  · generalize s = h9
    show Aw K E _ _ _ _ _ 56 [(0, rf E a0), (1, .int v4), (2, .int v5)] [] h9 _
    refine aw_iload_n (pc := 56) C dX10_read_56 rfl 2 rfl ?_
    refine aw_aload_n (pc := 57) C dX10_read_57 rfl 0 rfl ?_
    refine aw_getI (pc := 58) C fl_X10_236 dX10_read_58 (fun v12 ev12 => ?_)
    refine aw_aload_n (pc := 61) C dX10_read_61 rfl 0 rfl ?_
    refine aw_getI (pc := 62) C fl_X10_233 dX10_read_62 (fun v13 ev13 => ?_)
    refine aw_jn (σ := Int32) 73 (fun s => [(0, rf E a0), (1, .int v4)]) (fun s => [.int s, .int v5]) (fun s => h9) (fun s => ?_) (fun k15 jk16 => ?_)
    · generalize s = v14
      show Aw K E _ _ _ _ _ 73 [(0, rf E a0), (1, .int v4)] [.int v14, .int v5] h9 _
      refine aw_iand (pc := 73) C dX10_read_73 ?_
      refine aw_nmI (pc := 74) (fun v17 ev17 => ?_)
      refine aw_istore_n (pc := 74) (L' := [(2, .int v17), (0, rf E a0), (1, .int v4)]) C dX10_read_74 rfl (by decide) rfl ?_
      refine aw_aload_n (pc := 75) C dX10_read_75 rfl 1 rfl ?_
      refine aw_iconst (pc := 76) (v := 0) C dX10_read_76 (by decide) ?_
      refine aw_putI (pc := 77) C fw_X10_233 rfl rfl dX10_read_77 (fun h18 eh18 => ?_)
      refine aw_iload_n (pc := 80) C dX10_read_80 rfl 0 rfl ?_
      refine aw_if_ne (pc := 81) C 92 dX10_read_81 (by decide) (fun c33 => ?_) (fun c33 => ?_)
      · refine aw_bipush (pc := 84) (v := (-10)) C dX10_read_84 (by decide) ?_
        refine aw_aload_n (pc := 86) C dX10_read_86 rfl 1 rfl ?_
        refine aw_getI (pc := 87) C fl_X10_236 dX10_read_87 (fun v19 ev19 => ?_)
        refine aw_isub (pc := 90) C dX10_read_90 ?_
        exact aw_ireturn (pc := 91) C hr rfl hz0 rfl dX10_read_91
      refine aw_iconst (pc := 92) (v := 0) C dX10_read_92 (by decide) ?_
      refine aw_istore_n (pc := 93) (L' := [(3, .int 0), (2, .int v17), (0, rf E a0), (1, .int v4)]) C dX10_read_93 rfl (by decide) rfl ?_
      refine aw_iconst (pc := 94) (v := 0) C dX10_read_94 (by decide) ?_
      refine aw_istore (pc := 95) (L' := [(4, .int 0), (3, .int 0), (2, .int v17), (0, rf E a0), (1, .int v4)]) C dX10_read_95 (by decide) rfl ?_
      refine aw_sub (L' := [(0, rf E a0), (1, .int v4), (3, .int 0), (4, .int 0)]) [3, 4, 1, 0] rfl ?_
      refine aw_loop (pc := 97) (σ := Int32 × Int32 × Mem) (fun s => [(0, rf E a0), (1, .int v4), (3, .int s.1), (4, .int s.2.1)]) (fun s => s.2.2) _ (fun k23 ih24 s => ?_) _ _
      obtain ⟨v20, v21, h22⟩ := s
      show Aw K E _ _ _ _ _ 97 [(0, rf E a0), (1, .int v4), (3, .int v20), (4, .int v21)] [] h22 _
      refine aw_iload (pc := 97) C dX10_read_97 3 rfl ?_
      refine aw_iload_n (pc := 99) C dX10_read_99 rfl 1 rfl ?_
      refine aw_icmp_gt (pc := 100) C 126 dX10_read_100 (by decide) (fun c32 => ?_) (fun c32 => ?_)
      · refine aw_iload_n (pc := 126) C dX10_read_126 rfl 2 rfl ?_
        exact aw_ireturn (pc := 127) C hr rfl hz0 rfl dX10_read_127
      refine aw_iload_n (pc := 103) C dX10_read_103 rfl 2 rfl ?_
      refine aw_aload_n (pc := 104) C dX10_read_104 rfl 0 rfl ?_
      refine aw_iload (pc := 105) C dX10_read_105 3 rfl ?_
      refine aw_callVI (pc := 107) (R := rmX10_read) (c := 10) (As := [.int v21]) (rest := [.int v20]) (st := [.int v21, rf E a0, .int v20]) (c' := 0) (s' := 0) C hE rfl (by decide) cal_X10_does ml_X10_273 rfl ⟨(Nat.le_of_ble_eq_true rfl), (Nat.le_of_ble_eq_true rfl)⟩ ⟨(Nat.le_of_ble_eq_true rfl), (Nat.le_of_ble_eq_true rfl)⟩ dX10_read_107 (okX10_does E (kL K) a0 v21 h22) rfl (Nat.le_of_ble_eq_true rfl) rfl rfl (fun v26 h25 eh25 => ?_)
      refine aw_if_lt (pc := 110) C 117 dX10_read_110 (by decide) (fun c31 => ?_) (fun c31 => ?_)
      · refine aw_iconst (pc := 117) (v := 0) C dX10_read_117 (by decide) ?_
        refine aw_iadd (pc := 118) C dX10_read_118 ?_
        refine aw_nmI (pc := 119) (fun v29 ev29 => ?_)
        refine aw_istore_n (pc := 119) (L' := [(3, .int v29), (0, rf E a0), (1, .int v4), (4, .int v21)]) C dX10_read_119 rfl (by decide) rfl ?_
        refine aw_iincN (pc := 120) (L1 := [(3, .int v29), (0, rf E a0), (1, .int v4)]) (k := 1) C dX10_read_120 3 rfl (by decide) (by decide) rfl (fun v30 ev30 => ?_)
        refine aw_goto (pc := 123) C 97 dX10_read_123 (by decide) ?_
        exact aw_sub (L' := [(0, rf E a0), (1, .int v4), (3, .int v29), (4, .int v30)]) [2, 3, 1, 0] rfl (ih24 (v29, v30, h25))
      refine aw_iconst (pc := 113) (v := 1) C dX10_read_113 (by decide) ?_
      refine aw_goto (pc := 114) C 118 dX10_read_114 (by decide) ?_
      refine aw_iadd (pc := 118) C dX10_read_118 ?_
      refine aw_nmI (pc := 119) (fun v27 ev27 => ?_)
      refine aw_istore_n (pc := 119) (L' := [(3, .int v27), (0, rf E a0), (1, .int v4), (4, .int v21)]) C dX10_read_119 rfl (by decide) rfl ?_
      refine aw_iincN (pc := 120) (L1 := [(3, .int v27), (0, rf E a0), (1, .int v4)]) (k := 1) C dX10_read_120 3 rfl (by decide) (by decide) rfl (fun v28 ev28 => ?_)
      refine aw_goto (pc := 123) C 97 dX10_read_123 (by decide) ?_
      exact aw_sub (L' := [(0, rf E a0), (1, .int v4), (3, .int v27), (4, .int v28)]) [2, 3, 1, 0] rfl (ih24 (v27, v28, h25))
    refine aw_icmp_ne (pc := 65) C 72 dX10_read_65 (by decide) (fun c34 => ?_) (fun c34 => ?_)
    · refine aw_iconst (pc := 68) (v := 1) C dX10_read_68 (by decide) ?_
      refine aw_goto (pc := 69) C 73 dX10_read_69 (by decide) ?_
      exact aw_sub (L' := [(0, rf E a0), (1, .int v4)]) [0, 1] rfl (jk16 1)
    refine aw_iconst (pc := 72) (v := 0) C dX10_read_72 (by decide) ?_
    exact aw_sub (L' := [(0, rf E a0), (1, .int v4)]) [0, 1] rfl (jk16 0)
  refine aw_if_eq (pc := 14) C 56 dX10_read_14 (by decide) (fun c44 => ?_) (fun c44 => ?_)
  · exact aw_sub (L' := [(0, rf E a0), (1, .int v4), (2, .int v5)]) [0, 1, 2] rfl (jk11 h6)
  refine aw_aload_n (pc := 17) C dX10_read_17 rfl 0 rfl ?_
  refine aw_callVI (pc := 18) (R := rmX10_read) (c := 10) (As := []) (rest := []) (st := [rf E a0]) (c' := 0) (s' := 0) C hE rfl (by decide) cal_X10_here ml_X10_239 rfl ⟨(Nat.le_of_ble_eq_true rfl), (Nat.le_of_ble_eq_true rfl)⟩ ⟨(Nat.le_of_ble_eq_true rfl), (Nat.le_of_ble_eq_true rfl)⟩ dX10_read_18 (okX10_here E (kL K) a0 h6) rfl (Nat.le_of_ble_eq_true rfl) rfl rfl (fun v36 h35 eh35 => ?_)
  refine aw_bipush (pc := 21) (v := 59) C dX10_read_21 (by decide) ?_
  refine aw_icmp_ne (pc := 23) C 56 dX10_read_23 (by decide) (fun c43 => ?_) (fun c43 => ?_)
  · refine aw_iload_n (pc := 26) C dX10_read_26 rfl 1 rfl ?_
    refine aw_iconst (pc := 27) (v := 1) C dX10_read_27 (by decide) ?_
    refine aw_iadd (pc := 28) C dX10_read_28 ?_
    refine aw_bipush (pc := 29) (v := 12) C dX10_read_29 (by decide) ?_
    refine aw_icmp_ge (pc := 31) C 56 dX10_read_31 (by decide) (fun c42 => ?_) (fun c42 => ?_)
    · exact aw_sub (L' := [(0, rf E a0), (1, .int v4), (2, .int v5)]) [0, 1, 2] rfl (jk11 h35)
    refine aw_aload_n (pc := 34) C dX10_read_34 rfl 0 rfl ?_
    refine aw_dup (pc := 35) C rfl dX10_read_35 ?_
    refine aw_getI (pc := 36) C fl_X10_236 dX10_read_36 (fun v37 ev37 => ?_)
    refine aw_iconst (pc := 39) (v := 1) C dX10_read_39 (by decide) ?_
    refine aw_iadd (pc := 40) C dX10_read_40 ?_
    refine aw_putI (pc := 41) C fw_X10_236 rfl rfl dX10_read_41 (fun h38 eh38 => ?_)
    refine aw_iincN (pc := 44) (L1 := [(0, rf E a0), (2, .int v5)]) (k := 1) C dX10_read_44 1 rfl (by decide) (by decide) rfl (fun v39 ev39 => ?_)
    refine aw_aload_n (pc := 47) C dX10_read_47 rfl 1 rfl ?_
    refine aw_iload_n (pc := 48) C dX10_read_48 rfl 0 rfl ?_
    refine aw_callVI (pc := 49) (R := rmX10_read) (c := 10) (As := [.int v39]) (rest := []) (st := [.int v39, rf E a0]) (c' := 0) (s' := 0) C hE rfl (by decide) cal_X10_readsClause ml_X10_270 rfl ⟨(Nat.le_of_ble_eq_true rfl), (Nat.le_of_ble_eq_true rfl)⟩ ⟨(Nat.le_of_ble_eq_true rfl), (Nat.le_of_ble_eq_true rfl)⟩ dX10_read_49 (okX10_readsClause E (kL K) a0 v39 h38) rfl (Nat.le_of_ble_eq_true rfl) rfl rfl (fun v41 h40 eh40 => ?_)
    refine aw_istore_n (pc := 52) (L' := [(2, .int v41), (1, .int v39), (0, rf E a0)]) C dX10_read_52 rfl (by decide) rfl ?_
    refine aw_goto (pc := 53) C 13 dX10_read_53 (by decide) ?_
    exact aw_sub (L' := [(0, rf E a0), (1, .int v39), (2, .int v41)]) [2, 1, 0] rfl (ih8 (v39, v41, h40))
  exact aw_sub (L' := [(0, rf E a0), (1, .int v4), (2, .int v5)]) [0, 1, 2] rfl (jk11 h35)
def rmX10_of : Room := { frames := 2, cells := 0, slots := 0, locals := 46 }
set_option maxHeartbeats 4000000 in
set_option maxRecDepth 100000 in
theorem okX10_of (E : Ev) (l : Launch) (a0 : Nat) (a1 : Int32) (h0 : Mem) : AMet E l yX10_of cX10_of 2 (some (.int)) rmX10_of [rf E a0, .int a1] h0 rvI (fX10_of a0 a1 h0) := by
  refine am_intro (plainFor_of_name (by decide +kernel)) (Nat.le_of_ble_eq_true rfl) (fun K hKl C hr hnm hz0 => ?_)
  replace C : CxOK K E RX10 cX10_of 2 := C
  have hE : E.1 + 1 ≤ (kS K).heap.size := by omega
  unfold fX10_of
  show Aw K E _ _ _ _ _ 0 [(0, rf E a0), (1, .int a1)] [] h0 _
  refine aw_aload_n (pc := 0) C dX10_of_0 rfl 0 rfl ?_
  refine aw_iload_n (pc := 1) C dX10_of_1 rfl 1 rfl ?_
  refine aw_callVI (pc := 2) (R := rmX10_of) (c := 10) (As := [.int a1]) (rest := []) (st := [.int a1, rf E a0]) (c' := 0) (s' := 0) C hE rfl (by decide) cal_X10_isNumber ml_X10_104 rfl ⟨(Nat.le_of_ble_eq_true rfl), (Nat.le_of_ble_eq_true rfl)⟩ ⟨(Nat.le_of_ble_eq_true rfl), (Nat.le_of_ble_eq_true rfl)⟩ dX10_of_2 (okX10_isNumber E (kL K) a0 a1 h0) rfl (Nat.le_of_ble_eq_true rfl) rfl rfl (fun v2 h1 eh1 => ?_)
  refine aw_if_eq (pc := 5) C 21 dX10_of_5 (by decide) (fun c5 => ?_) (fun c5 => ?_)
  · refine aw_iconst (pc := 21) (v := (-1)) C dX10_of_21 (by decide) ?_
    exact aw_ireturn (pc := 22) C hr rfl hz0 rfl dX10_of_22
  refine aw_aload_n (pc := 8) C dX10_of_8 rfl 0 rfl ?_
  refine aw_getR (pc := 9) C fl_X10_15 dX10_of_9 (fun v3 ev3 => ?_)
  refine aw_iload_n (pc := 12) C dX10_of_12 rfl 1 rfl ?_
  refine aw_laload (pc := 13) C dX10_of_13 (fun v4 ev4 => ?_)
  refine aw_l2i (pc := 14) C dX10_of_14 ?_
  refine aw_bipush (pc := 15) (v := 100) C dX10_of_15 (by decide) ?_
  refine aw_iadd (pc := 17) C dX10_of_17 ?_
  refine aw_goto (pc := 18) C 22 dX10_of_18 (by decide) ?_
  exact aw_ireturn (pc := 22) C hr rfl hz0 rfl dX10_of_22
def rmX10_power : Room := { frames := 0, cells := 0, slots := 0, locals := 0 }
set_option maxHeartbeats 4000000 in
set_option maxRecDepth 100000 in
theorem okX10_power (E : Ev) (l : Launch) (a0 : Int64) (a2 : Int32) (h0 : Mem) : AMet E l yX10_power cX10_power 6 (some (.long)) rmX10_power [.long a0, .int a2] h0 rvJ (fX10_power a0 a2 h0) := by
  refine am_intro (plainFor_of_name (by decide +kernel)) (Nat.le_of_ble_eq_true rfl) (fun K hKl C hr hnm hz0 => ?_)
  replace C : CxOK K E RX10 cX10_power 6 := C
  have hE : E.1 + 1 ≤ (kS K).heap.size := by omega
  unfold fX10_power
  show Aw K E _ _ _ _ _ 0 [(0, .long a0), (2, .int a2)] [] h0 _
  refine aw_lconst (pc := 0) (v := 1) C dX10_power_0 (by decide) ?_
  refine aw_lstore_n (pc := 1) (L' := [(3, .long 1), (0, .long a0), (2, .int a2)]) C dX10_power_1 rfl (by decide) rfl ?_
  refine aw_iconst (pc := 2) (v := 0) C dX10_power_2 (by decide) ?_
  refine aw_istore (pc := 3) (L' := [(5, .int 0), (3, .long 1), (0, .long a0), (2, .int a2)]) C dX10_power_3 (by decide) rfl ?_
  refine aw_sub (L' := [(0, .long a0), (2, .int a2), (3, .long 1), (5, .int 0)]) [2, 3, 1, 0] rfl ?_
  refine aw_loop (pc := 5) (σ := Int64 × Int32) (fun s => [(0, .long a0), (2, .int a2), (3, .long s.1), (5, .int s.2)]) (fun s => h0) _ (fun k3 ih4 s => ?_) _ _
  obtain ⟨v1, v2⟩ := s
  show Aw K E _ _ _ _ _ 5 [(0, .long a0), (2, .int a2), (3, .long v1), (5, .int v2)] [] h0 _
  refine aw_iload (pc := 5) C dX10_power_5 3 rfl ?_
  refine aw_iload_n (pc := 7) C dX10_power_7 rfl 1 rfl ?_
  refine aw_icmp_ge (pc := 8) C 21 dX10_power_8 (by decide) (fun c7 => ?_) (fun c7 => ?_)
  · refine aw_lload_n (pc := 21) C dX10_power_21 rfl 2 rfl ?_
    exact aw_lreturn (pc := 22) C hr hz0 rfl dX10_power_22
  refine aw_lload_n (pc := 11) C dX10_power_11 rfl 2 rfl ?_
  refine aw_lload_n (pc := 12) C dX10_power_12 rfl 0 rfl ?_
  refine aw_lmul (pc := 13) C dX10_power_13 ?_
  refine aw_nmJ (pc := 14) (fun v5 ev5 => ?_)
  refine aw_lstore_n (pc := 14) (L' := [(3, .long v5), (0, .long a0), (2, .int a2), (5, .int v2)]) C dX10_power_14 rfl (by decide) rfl ?_
  refine aw_iincN (pc := 15) (L1 := [(3, .long v5), (0, .long a0), (2, .int a2)]) (k := 1) C dX10_power_15 3 rfl (by decide) (by decide) rfl (fun v6 ev6 => ?_)
  refine aw_goto (pc := 18) C 5 dX10_power_18 (by decide) ?_
  exact aw_sub (L' := [(0, .long a0), (2, .int a2), (3, .long v5), (5, .int v6)]) [2, 3, 1, 0] rfl (ih4 (v5, v6))
def rmX10_valueAt : Room := { frames := 1, cells := 0, slots := 0, locals := 25 }
set_option maxHeartbeats 4000000 in
set_option maxRecDepth 100000 in
theorem okX10_valueAt (E : Ev) (l : Launch) (a0 : Nat) (a1 : Int64) (a3 : Int64) (h0 : Mem) : AMet E l yX10_valueAt cX10_valueAt 8 (some (.long)) rmX10_valueAt [rf E a0, .long a1, .long a3] h0 rvJ (fX10_valueAt a0 a1 a3 h0) := by
  refine am_intro (plainFor_of_name (by decide +kernel)) (Nat.le_of_ble_eq_true rfl) (fun K hKl C hr hnm hz0 => ?_)
  replace C : CxOK K E RX10 cX10_valueAt 8 := C
  have hE : E.1 + 1 ≤ (kS K).heap.size := by omega
  unfold fX10_valueAt
  show Aw K E _ _ _ _ _ 0 [(0, rf E a0), (1, .long a1), (3, .long a3)] [] h0 _
  refine aw_lconst (pc := 0) (v := 0) C dX10_valueAt_0 (by decide) ?_
  refine aw_lstore (pc := 1) (L' := [(5, .long 0), (0, rf E a0), (1, .long a1), (3, .long a3)]) C dX10_valueAt_1 (by decide) rfl ?_
  refine aw_iconst (pc := 3) (v := 0) C dX10_valueAt_3 (by decide) ?_
  refine aw_istore (pc := 4) (L' := [(7, .int 0), (5, .long 0), (0, rf E a0), (1, .long a1), (3, .long a3)]) C dX10_valueAt_4 (by decide) rfl ?_
  refine aw_sub (L' := [(0, rf E a0), (1, .long a1), (3, .long a3), (5, .long 0), (7, .int 0)]) [2, 3, 4, 1, 0] rfl ?_
  refine aw_loop (pc := 6) (σ := Int64 × Int32 × Mem) (fun s => [(0, rf E a0), (1, .long a1), (3, .long a3), (5, .long s.1), (7, .int s.2.1)]) (fun s => s.2.2) _ (fun k4 ih5 s => ?_) _ _
  obtain ⟨v1, v2, h3⟩ := s
  show Aw K E _ _ _ _ _ 6 [(0, rf E a0), (1, .long a1), (3, .long a3), (5, .long v1), (7, .int v2)] [] h3 _
  refine aw_iload (pc := 6) C dX10_valueAt_6 4 rfl ?_
  refine aw_aload_n (pc := 8) C dX10_valueAt_8 rfl 0 rfl ?_
  refine aw_getI (pc := 9) C fl_X10_9 dX10_valueAt_9 (fun v6 ev6 => ?_)
  refine aw_icmp_gt (pc := 12) C 52 dX10_valueAt_12 (by decide) (fun c16 => ?_) (fun c16 => ?_)
  · refine aw_lload (pc := 52) C dX10_valueAt_52 3 rfl ?_
    exact aw_lreturn (pc := 54) C hr hz0 rfl dX10_valueAt_54
  refine aw_lload (pc := 15) C dX10_valueAt_15 3 rfl ?_
  refine aw_aload_n (pc := 17) C dX10_valueAt_17 rfl 0 rfl ?_
  refine aw_getR (pc := 18) C fl_X10_15 dX10_valueAt_18 (fun v7 ev7 => ?_)
  refine aw_iload (pc := 21) C dX10_valueAt_21 4 rfl ?_
  refine aw_laload (pc := 23) C dX10_valueAt_23 (fun v8 ev8 => ?_)
  refine aw_lload_n (pc := 24) C dX10_valueAt_24 rfl 1 rfl ?_
  refine aw_aload_n (pc := 25) C dX10_valueAt_25 rfl 0 rfl ?_
  refine aw_getI (pc := 26) C fl_X10_9 dX10_valueAt_26 (fun v9 ev9 => ?_)
  refine aw_iload (pc := 29) C dX10_valueAt_29 4 rfl ?_
  refine aw_isub (pc := 31) C dX10_valueAt_31 ?_
  refine aw_callSJ (pc := 32) (R := rmX10_valueAt) (As := [.long a1, .int (v9 - v2)]) (rest := [.long v8, .long v1]) (st := [.int (v9 - v2), .long a1, .long v8, .long v1]) (c' := 0) (s' := 0) C hE cal_X10_power ml_X10_118 rfl ⟨(Nat.le_of_ble_eq_true rfl), (Nat.le_of_ble_eq_true rfl)⟩ ⟨(Nat.le_of_ble_eq_true rfl), (Nat.le_of_ble_eq_true rfl)⟩ dX10_valueAt_32 (okX10_power E (kL K) a1 (v9 - v2) h3) rfl (Nat.le_of_ble_eq_true rfl) rfl rfl (fun v11 h10 eh10 => ?_)
  refine aw_lmul (pc := 35) C dX10_valueAt_35 ?_
  refine aw_lload_n (pc := 36) C dX10_valueAt_36 rfl 2 rfl ?_
  refine aw_iload (pc := 37) C dX10_valueAt_37 4 rfl ?_
  refine aw_callSJ (pc := 39) (R := rmX10_valueAt) (As := [.long a3, .int v2]) (rest := [.long (v8 * v11), .long v1]) (st := [.int v2, .long a3, .long (v8 * v11), .long v1]) (c' := 0) (s' := 0) C hE cal_X10_power ml_X10_118 rfl ⟨(Nat.le_of_ble_eq_true rfl), (Nat.le_of_ble_eq_true rfl)⟩ ⟨(Nat.le_of_ble_eq_true rfl), (Nat.le_of_ble_eq_true rfl)⟩ dX10_valueAt_39 (okX10_power E (kL K) a3 v2 h10) rfl (Nat.le_of_ble_eq_true rfl) rfl rfl (fun v13 h12 eh12 => ?_)
  refine aw_lmul (pc := 42) C dX10_valueAt_42 ?_
  refine aw_ladd (pc := 43) C dX10_valueAt_43 ?_
  refine aw_nmJ (pc := 44) (fun v14 ev14 => ?_)
  refine aw_lstore (pc := 44) (L' := [(5, .long v14), (0, rf E a0), (1, .long a1), (3, .long a3), (7, .int v2)]) C dX10_valueAt_44 (by decide) rfl ?_
  refine aw_iincN (pc := 46) (L1 := [(5, .long v14), (0, rf E a0), (1, .long a1), (3, .long a3)]) (k := 1) C dX10_valueAt_46 4 rfl (by decide) (by decide) rfl (fun v15 ev15 => ?_)
  refine aw_goto (pc := 49) C 6 dX10_valueAt_49 (by decide) ?_
  exact aw_sub (L' := [(0, rf E a0), (1, .long a1), (3, .long a3), (5, .long v14), (7, .int v15)]) [2, 3, 4, 1, 0] rfl (ih5 (v14, v15, h12))
