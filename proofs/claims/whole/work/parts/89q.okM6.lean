def rmX10_image : Room := { frames := 2, cells := 0, slots := 0, locals := 47 }
set_option maxHeartbeats 4000000 in
set_option maxRecDepth 100000 in
theorem okX10_image (E : Ev) (l : Launch) (a0 : Nat) (h0 : Mem) : AMet E l yX10_image cX10_image 1 (some (.int)) rmX10_image [rf E a0] h0 rvI (fX10_image a0 h0) := by
  refine am_intro (plainFor_of_name (by decide +kernel)) (Nat.le_of_ble_eq_true rfl) (fun K hKl C hr hnm hz0 => ?_)
  replace C : CxOK K E RX10 cX10_image 1 := C
  have hE : E.1 + 1 ≤ (kS K).heap.size := by omega
  unfold fX10_image
  show Aw K E _ _ _ _ _ 0 [(0, rf E a0)] [] h0 _
  refine aw_aload_n (pc := 0) C dX10_image_0 rfl 0 rfl ?_
  refine aw_iconst (pc := 1) (v := 1) C dX10_image_1 (by decide) ?_
  refine aw_putI (pc := 2) C fw_X10_306 rfl rfl dX10_image_2 (fun h1 eh1 => ?_)
  refine aw_aload_n (pc := 5) C dX10_image_5 rfl 0 rfl ?_
  refine aw_iconst (pc := 6) (v := 0) C dX10_image_6 (by decide) ?_
  refine aw_callVV (pc := 7) (R := rmX10_image) (c := 10) (As := [.int 0]) (rest := []) (st := [.int 0, rf E a0]) (c' := 0) (s' := 0) C hE rfl (by decide) cal_X10_lays ml_X10_310 rfl ⟨(Nat.le_of_ble_eq_true rfl), (Nat.le_of_ble_eq_true rfl)⟩ ⟨(Nat.le_of_ble_eq_true rfl), (Nat.le_of_ble_eq_true rfl)⟩ dX10_image_7 (okX10_lays E (kL K) a0 0 h1) rfl (Nat.le_of_ble_eq_true rfl) rfl rfl (fun _u h2 eh2 => ?_)
  refine aw_aload_n (pc := 10) C dX10_image_10 rfl 0 rfl ?_
  refine aw_getI (pc := 11) C fl_X10_9 dX10_image_11 (fun v3 ev3 => ?_)
  exact aw_ireturn (pc := 14) C hr rfl hz0 rfl dX10_image_14
def rmX10_undo : Room := { frames := 2, cells := 0, slots := 0, locals := 47 }
set_option maxHeartbeats 4000000 in
set_option maxRecDepth 100000 in
theorem okX10_undo (E : Ev) (l : Launch) (a0 : Nat) (h0 : Mem) : AMet E l yX10_undo cX10_undo 1 (some (.int)) rmX10_undo [rf E a0] h0 rvI (fX10_undo a0 h0) := by
  refine am_intro (plainFor_of_name (by decide +kernel)) (Nat.le_of_ble_eq_true rfl) (fun K hKl C hr hnm hz0 => ?_)
  replace C : CxOK K E RX10 cX10_undo 1 := C
  have hE : E.1 + 1 ≤ (kS K).heap.size := by omega
  unfold fX10_undo
  show Aw K E _ _ _ _ _ 0 [(0, rf E a0)] [] h0 _
  refine aw_aload_n (pc := 0) C dX10_undo_0 rfl 0 rfl ?_
  refine aw_getI (pc := 1) C fl_X10_306 dX10_undo_1 (fun v1 ev1 => ?_)
  refine aw_if_ne (pc := 4) C 10 dX10_undo_4 (by decide) (fun c4 => ?_) (fun c4 => ?_)
  · refine aw_bipush (pc := 7) (v := (-3)) C dX10_undo_7 (by decide) ?_
    exact aw_ireturn (pc := 9) C hr rfl hz0 rfl dX10_undo_9
  refine aw_aload_n (pc := 10) C dX10_undo_10 rfl 0 rfl ?_
  refine aw_iconst (pc := 11) (v := 1) C dX10_undo_11 (by decide) ?_
  refine aw_callVV (pc := 12) (R := rmX10_undo) (c := 10) (As := [.int 1]) (rest := []) (st := [.int 1, rf E a0]) (c' := 0) (s' := 0) C hE rfl (by decide) cal_X10_lays ml_X10_310 rfl ⟨(Nat.le_of_ble_eq_true rfl), (Nat.le_of_ble_eq_true rfl)⟩ ⟨(Nat.le_of_ble_eq_true rfl), (Nat.le_of_ble_eq_true rfl)⟩ dX10_undo_12 (okX10_lays E (kL K) a0 1 h0) rfl (Nat.le_of_ble_eq_true rfl) rfl rfl (fun _u h2 eh2 => ?_)
  refine aw_aload_n (pc := 15) C dX10_undo_15 rfl 0 rfl ?_
  refine aw_getI (pc := 16) C fl_X10_9 dX10_undo_16 (fun v3 ev3 => ?_)
  exact aw_ireturn (pc := 19) C hr rfl hz0 rfl dX10_undo_19
def rmX10_count : Room := { frames := 0, cells := 0, slots := 0, locals := 0 }
set_option maxHeartbeats 4000000 in
set_option maxRecDepth 100000 in
theorem okX10_count (E : Ev) (l : Launch) (a0 : Nat) (a1 : Int32) (h0 : Mem) : AMet E l yX10_count cX10_count 2 (some (.int)) rmX10_count [rf E a0, .int a1] h0 rvI (fX10_count a0 a1 h0) := by
  refine am_intro (plainFor_of_name (by decide +kernel)) (Nat.le_of_ble_eq_true rfl) (fun K hKl C hr hnm hz0 => ?_)
  replace C : CxOK K E RX10 cX10_count 2 := C
  have hE : E.1 + 1 ≤ (kS K).heap.size := by omega
  unfold fX10_count
  show Aw K E _ _ _ _ _ 0 [(0, rf E a0), (1, .int a1)] [] h0 _
  refine aw_iload_n (pc := 0) C dX10_count_0 rfl 1 rfl ?_
  refine aw_case 0 (fun c1 => ?_) (fun c1 => ?_)
  · refine aw_tableIn (pc := 1) C 0 32 c1 dX10_count_1 (by decide) (by decide) rfl (by decide) ?_
    refine aw_aload_n (pc := 32) C dX10_count_32 rfl 0 rfl ?_
    refine aw_getI (pc := 33) C fl_X10_276 dX10_count_33 (fun v2 ev2 => ?_)
    exact aw_ireturn (pc := 36) C hr rfl hz0 rfl dX10_count_36
  refine aw_case 1 (fun c3 => ?_) (fun c3 => ?_)
  · refine aw_tableIn (pc := 1) C 1 37 c3 dX10_count_1 (by decide) (by decide) rfl (by decide) ?_
    refine aw_aload_n (pc := 37) C dX10_count_37 rfl 0 rfl ?_
    refine aw_getI (pc := 38) C fl_X10_283 dX10_count_38 (fun v4 ev4 => ?_)
    exact aw_ireturn (pc := 41) C hr rfl hz0 rfl dX10_count_41
  refine aw_case 2 (fun c5 => ?_) (fun c5 => ?_)
  · refine aw_tableIn (pc := 1) C 2 42 c5 dX10_count_1 (by decide) (by decide) rfl (by decide) ?_
    refine aw_aload_n (pc := 42) C dX10_count_42 rfl 0 rfl ?_
    refine aw_getI (pc := 43) C fl_X10_296 dX10_count_43 (fun v6 ev6 => ?_)
    exact aw_ireturn (pc := 46) C hr rfl hz0 rfl dX10_count_46
  refine aw_case 3 (fun c7 => ?_) (fun c7 => ?_)
  · refine aw_tableIn (pc := 1) C 3 47 c7 dX10_count_1 (by decide) (by decide) rfl (by decide) ?_
    refine aw_aload_n (pc := 47) C dX10_count_47 rfl 0 rfl ?_
    refine aw_getI (pc := 48) C fl_X10_233 dX10_count_48 (fun v8 ev8 => ?_)
    exact aw_ireturn (pc := 51) C hr rfl hz0 rfl dX10_count_51
  refine aw_tableOut (pc := 1) C 52 dX10_count_1 (by have qc1 := lv_neT c1 (show (0 : Int32).toInt = 0 by decide); have qc3 := lv_neT c3 (show (1 : Int32).toInt = 1 by decide); have qc5 := lv_neT c5 (show (2 : Int32).toInt = 2 by decide); have qc7 := lv_neT c7 (show (3 : Int32).toInt = 3 by decide); omega) (by decide) ?_
  refine aw_bipush (pc := 52) (v := (-2)) C dX10_count_52 (by decide) ?_
  exact aw_ireturn (pc := 54) C hr rfl hz0 rfl dX10_count_54
def rmX10_tape : Room := { frames := 2, cells := 0, slots := 0, locals := 45 }
set_option maxHeartbeats 4000000 in
set_option maxRecDepth 100000 in
theorem okX10_tape (E : Ev) (l : Launch) (a0 : Nat) (a1 : Int32) (a2 : Int32) (a3 : Int32) (h0 : Mem) : AMet E l yX10_tape cX10_tape 5 (some (.int)) rmX10_tape [rf E a0, .int a1, .int a2, .int a3] h0 rvI (fX10_tape a0 a1 a2 a3 h0) := by
  refine am_intro (plainFor_of_name (by decide +kernel)) (Nat.le_of_ble_eq_true rfl) (fun K hKl C hr hnm hz0 => ?_)
  replace C : CxOK K E RX10 cX10_tape 5 := C
  have hE : E.1 + 1 ≤ (kS K).heap.size := by omega
  unfold fX10_tape
  show Aw K E _ _ _ _ _ 0 [(0, rf E a0), (1, .int a1), (2, .int a2), (3, .int a3)] [] h0 _
  refine aw_iload_n (pc := 0) C dX10_tape_0 rfl 1 rfl ?_
  refine aw_callSI (pc := 1) (R := rmX10_tape) (As := [.int a1]) (rest := []) (st := [.int a1]) (c' := 0) (s' := 0) C hE cal_X10_isTape ml_X10_299 rfl ⟨(Nat.le_of_ble_eq_true rfl), (Nat.le_of_ble_eq_true rfl)⟩ ⟨(Nat.le_of_ble_eq_true rfl), (Nat.le_of_ble_eq_true rfl)⟩ dX10_tape_1 (okX10_isTape E (kL K) a1 h0) rfl (Nat.le_of_ble_eq_true rfl) rfl rfl (fun v2 h1 eh1 => ?_)
  refine aw_if_ne (pc := 4) C 9 dX10_tape_4 (by decide) (fun c30 => ?_) (fun c30 => ?_)
  · refine aw_iconst (pc := 7) (v := (-1)) C dX10_tape_7 (by decide) ?_
    exact aw_ireturn (pc := 8) C hr rfl hz0 rfl dX10_tape_8
  refine aw_iload_n (pc := 9) C dX10_tape_9 rfl 2 rfl ?_
  refine aw_i2l (pc := 10) C dX10_tape_10 ?_
  refine aw_ldc2 (pc := 11) (v := (-1)) C kc_X10_130 dX10_tape_11 ?_
  refine aw_ldc2 (pc := 14) (v := 4) C kc_X10_102 dX10_tape_14 ?_
  refine aw_callSI (pc := 17) (R := rmX10_tape) (As := [.long a2.toInt64, .long (-1), .long 4]) (rest := []) (st := [.long 4, .long (-1), .long a2.toInt64]) (c' := 0) (s' := 0) C hE cal_X10_in ml_X10_96 rfl ⟨(Nat.le_of_ble_eq_true rfl), (Nat.le_of_ble_eq_true rfl)⟩ ⟨(Nat.le_of_ble_eq_true rfl), (Nat.le_of_ble_eq_true rfl)⟩ dX10_tape_17 (okX10_in E (kL K) a2.toInt64 (-1) 4 h1) rfl (Nat.le_of_ble_eq_true rfl) rfl rfl (fun v4 h3 eh3 => ?_)
  refine aw_if_eq (pc := 20) C 33 dX10_tape_20 (by decide) (fun c29 => ?_) (fun c29 => ?_)
  · refine aw_bipush (pc := 33) (v := (-2)) C dX10_tape_33 (by decide) ?_
    exact aw_ireturn (pc := 35) C hr rfl hz0 rfl dX10_tape_35
  refine aw_iload_n (pc := 23) C dX10_tape_23 rfl 2 rfl ?_
  refine aw_jn (σ := Unit) 36 (fun s => [(0, rf E a0), (1, .int a1), (2, .int a2), (3, .int a3)]) (fun s => []) (fun s => h3) (fun s => ?_) (fun k5 jk6 => ?_)
  · show Aw K E _ _ _ _ _ 36 [(0, rf E a0), (1, .int a1), (2, .int a2), (3, .int a3)] [] h3 _
    refine aw_iload_n (pc := 36) C dX10_tape_36 rfl 2 rfl ?_
    refine aw_jn (σ := Unit) 47 (fun s => [(0, rf E a0), (1, .int a1), (2, .int a2), (3, .int a3)]) (fun s => []) (fun s => h3) (fun s => ?_) (fun k7 jk8 => ?_)
    · show Aw K E _ _ _ _ _ 47 [(0, rf E a0), (1, .int a1), (2, .int a2), (3, .int a3)] [] h3 _
      refine aw_aload_n (pc := 47) C dX10_tape_47 rfl 0 rfl ?_
      refine aw_getR (pc := 48) C fl_X10_81 dX10_tape_48 (fun v9 ev9 => ?_)
      refine aw_iload_n (pc := 51) C dX10_tape_51 rfl 1 rfl ?_
      refine aw_iload_n (pc := 52) C dX10_tape_52 rfl 2 rfl ?_
      refine aw_iastore (pc := 53) C dX10_tape_53 (fun h10 eh10 => ?_)
      refine aw_aload_n (pc := 54) C dX10_tape_54 rfl 0 rfl ?_
      refine aw_getR (pc := 55) C fl_X10_84 dX10_tape_55 (fun v11 ev11 => ?_)
      refine aw_iload_n (pc := 58) C dX10_tape_58 rfl 1 rfl ?_
      refine aw_iload_n (pc := 59) C dX10_tape_59 rfl 2 rfl ?_
      refine aw_jn (σ := Int32) 68 (fun s => [(0, rf E a0), (1, .int a1)]) (fun s => [.int s, .int a1, rf E v11]) (fun s => h10) (fun s => ?_) (fun k13 jk14 => ?_)
      · generalize s = v12
        show Aw K E _ _ _ _ _ 68 [(0, rf E a0), (1, .int a1)] [.int v12, .int a1, rf E v11] h10 _
        refine aw_iastore (pc := 68) C dX10_tape_68 (fun h15 eh15 => ?_)
        refine aw_iconst (pc := 69) (v := 0) C dX10_tape_69 (by decide) ?_
        refine aw_istore (pc := 70) (L' := [(4, .int 0), (0, rf E a0), (1, .int a1)]) C dX10_tape_70 (by decide) rfl ?_
        refine aw_sub (L' := [(0, rf E a0), (1, .int a1), (4, .int 0)]) [1, 2, 0] rfl ?_
        refine aw_loop (pc := 72) (σ := Int32 × Mem) (fun s => [(0, rf E a0), (1, .int a1), (4, .int s.1)]) (fun s => s.2) _ (fun k18 ih19 s => ?_) _ _
        obtain ⟨v16, h17⟩ := s
        show Aw K E _ _ _ _ _ 72 [(0, rf E a0), (1, .int a1), (4, .int v16)] [] h17 _
        refine aw_iload (pc := 72) C dX10_tape_72 2 rfl ?_
        refine aw_bipush (pc := 74) (v := 60) C dX10_tape_74 (by decide) ?_
        refine aw_icmp_ge (pc := 76) C 98 dX10_tape_76 (by decide) (fun c23 => ?_) (fun c23 => ?_)
        · refine aw_iconst (pc := 98) (v := 1) C dX10_tape_98 (by decide) ?_
          exact aw_ireturn (pc := 99) C hr rfl hz0 rfl dX10_tape_99
        refine aw_aload_n (pc := 79) C dX10_tape_79 rfl 0 rfl ?_
        refine aw_getR (pc := 80) C fl_X10_87 dX10_tape_80 (fun v20 ev20 => ?_)
        refine aw_bipush (pc := 83) (v := 60) C dX10_tape_83 (by decide) ?_
        refine aw_iload_n (pc := 85) C dX10_tape_85 rfl 1 rfl ?_
        refine aw_imul (pc := 86) C dX10_tape_86 ?_
        refine aw_iload (pc := 87) C dX10_tape_87 2 rfl ?_
        refine aw_iadd (pc := 89) C dX10_tape_89 ?_
        refine aw_lconst (pc := 90) (v := 0) C dX10_tape_90 (by decide) ?_
        refine aw_lastore (pc := 91) C dX10_tape_91 (fun h21 eh21 => ?_)
        refine aw_iincN (pc := 92) (L1 := [(0, rf E a0), (1, .int a1)]) (k := 1) C dX10_tape_92 2 rfl (by decide) (by decide) rfl (fun v22 ev22 => ?_)
        refine aw_goto (pc := 95) C 72 dX10_tape_95 (by decide) ?_
        exact aw_sub (L' := [(0, rf E a0), (1, .int a1), (4, .int v22)]) [1, 2, 0] rfl (ih19 (v22, h21))
      refine aw_if_ge (pc := 60) C 67 dX10_tape_60 (by decide) (fun c24 => ?_) (fun c24 => ?_)
      · refine aw_iload_n (pc := 67) C dX10_tape_67 rfl 3 rfl ?_
        exact aw_sub (L' := [(0, rf E a0), (1, .int a1)]) [0, 1] rfl (jk14 a3)
      refine aw_iconst (pc := 63) (v := 0) C dX10_tape_63 (by decide) ?_
      refine aw_goto (pc := 64) C 68 dX10_tape_64 (by decide) ?_
      exact aw_sub (L' := [(0, rf E a0), (1, .int a1)]) [0, 1] rfl (jk14 0)
    refine aw_if_lt (pc := 37) C 47 dX10_tape_37 (by decide) (fun c26 => ?_) (fun c26 => ?_)
    · exact aw_sub (L' := [(0, rf E a0), (1, .int a1), (2, .int a2), (3, .int a3)]) [0, 1, 2, 3] rfl (jk8 ())
    refine aw_iload_n (pc := 40) C dX10_tape_40 rfl 3 rfl ?_
    refine aw_if_ge (pc := 41) C 47 dX10_tape_41 (by decide) (fun c25 => ?_) (fun c25 => ?_)
    · exact aw_sub (L' := [(0, rf E a0), (1, .int a1), (2, .int a2), (3, .int a3)]) [0, 1, 2, 3] rfl (jk8 ())
    refine aw_bipush (pc := 44) (v := (-14)) C dX10_tape_44 (by decide) ?_
    exact aw_ireturn (pc := 46) C hr rfl hz0 rfl dX10_tape_46
  refine aw_if_lt (pc := 24) C 36 dX10_tape_24 (by decide) (fun c28 => ?_) (fun c28 => ?_)
  · exact aw_sub (L' := [(0, rf E a0), (1, .int a1), (2, .int a2), (3, .int a3)]) [0, 1, 2, 3] rfl (jk6 ())
  refine aw_iload_n (pc := 27) C dX10_tape_27 rfl 3 rfl ?_
  refine aw_bipush (pc := 28) (v := 60) C dX10_tape_28 (by decide) ?_
  refine aw_icmp_le (pc := 30) C 36 dX10_tape_30 (by decide) (fun c27 => ?_) (fun c27 => ?_)
  · exact aw_sub (L' := [(0, rf E a0), (1, .int a1), (2, .int a2), (3, .int a3)]) [0, 1, 2, 3] rfl (jk6 ())
  refine aw_bipush (pc := 33) (v := (-2)) C dX10_tape_33 (by decide) ?_
  exact aw_ireturn (pc := 35) C hr rfl hz0 rfl dX10_tape_35
def rmX10_held : Room := { frames := 0, cells := 0, slots := 0, locals := 0 }
set_option maxHeartbeats 4000000 in
set_option maxRecDepth 100000 in
theorem okX10_held (E : Ev) (l : Launch) (a0 : Int32) (a1 : Int64) (h0 : Mem) : AMet E l yX10_held cX10_held 3 (some (.long)) rmX10_held [.int a0, .long a1] h0 rvJ (fX10_held a0 a1 h0) := by
  refine am_intro (plainFor_of_name (by decide +kernel)) (Nat.le_of_ble_eq_true rfl) (fun K hKl C hr hnm hz0 => ?_)
  replace C : CxOK K E RX10 cX10_held 3 := C
  have hE : E.1 + 1 ≤ (kS K).heap.size := by omega
  unfold fX10_held
  show Aw K E _ _ _ _ _ 0 [(0, .int a0), (1, .long a1)] [] h0 _
  refine aw_iload_n (pc := 0) C dX10_held_0 rfl 0 rfl ?_
  refine aw_if_ne (pc := 1) C 11 dX10_held_1 (by decide) (fun c5 => ?_) (fun c5 => ?_)
  · refine aw_lload_n (pc := 4) C dX10_held_4 rfl 1 rfl ?_
    refine aw_l2i (pc := 5) C dX10_held_5 ?_
    refine aw_i2b (pc := 6) C dX10_held_6 ?_
    refine aw_i2l (pc := 7) C dX10_held_7 ?_
    refine aw_goto (pc := 8) C 54 dX10_held_8 (by decide) ?_
    exact aw_lreturn (pc := 54) C hr hz0 rfl dX10_held_54
  refine aw_iload_n (pc := 11) C dX10_held_11 rfl 0 rfl ?_
  refine aw_iconst (pc := 12) (v := 1) C dX10_held_12 (by decide) ?_
  refine aw_icmp_ne (pc := 13) C 23 dX10_held_13 (by decide) (fun c4 => ?_) (fun c4 => ?_)
  · refine aw_lload_n (pc := 16) C dX10_held_16 rfl 1 rfl ?_
    refine aw_l2i (pc := 17) C dX10_held_17 ?_
    refine aw_i2s (pc := 18) C dX10_held_18 ?_
    refine aw_i2l (pc := 19) C dX10_held_19 ?_
    refine aw_goto (pc := 20) C 54 dX10_held_20 (by decide) ?_
    exact aw_lreturn (pc := 54) C hr hz0 rfl dX10_held_54
  refine aw_iload_n (pc := 23) C dX10_held_23 rfl 0 rfl ?_
  refine aw_iconst (pc := 24) (v := 2) C dX10_held_24 (by decide) ?_
  refine aw_icmp_ne (pc := 25) C 34 dX10_held_25 (by decide) (fun c3 => ?_) (fun c3 => ?_)
  · refine aw_lload_n (pc := 28) C dX10_held_28 rfl 1 rfl ?_
    refine aw_l2i (pc := 29) C dX10_held_29 ?_
    refine aw_i2l (pc := 30) C dX10_held_30 ?_
    refine aw_goto (pc := 31) C 54 dX10_held_31 (by decide) ?_
    exact aw_lreturn (pc := 54) C hr hz0 rfl dX10_held_54
  refine aw_iload_n (pc := 34) C dX10_held_34 rfl 0 rfl ?_
  refine aw_iconst (pc := 35) (v := 3) C dX10_held_35 (by decide) ?_
  refine aw_icmp_ne (pc := 36) C 43 dX10_held_36 (by decide) (fun c2 => ?_) (fun c2 => ?_)
  · refine aw_lload_n (pc := 39) C dX10_held_39 rfl 1 rfl ?_
    refine aw_goto (pc := 40) C 54 dX10_held_40 (by decide) ?_
    exact aw_lreturn (pc := 54) C hr hz0 rfl dX10_held_54
  refine aw_lload_n (pc := 43) C dX10_held_43 rfl 1 rfl ?_
  refine aw_lconst (pc := 44) (v := 0) C dX10_held_44 (by decide) ?_
  refine aw_lcmp (pc := 45) C dX10_held_45 ?_
  refine aw_if_eq (pc := 46) C 53 dX10_held_46 (by decide) (fun c1 => ?_) (fun c1 => ?_)
  · refine aw_lconst (pc := 53) (v := 0) C dX10_held_53 (by decide) ?_
    exact aw_lreturn (pc := 54) C hr hz0 rfl dX10_held_54
  refine aw_lconst (pc := 49) (v := 1) C dX10_held_49 (by decide) ?_
  refine aw_goto (pc := 50) C 54 dX10_held_50 (by decide) ?_
  exact aw_lreturn (pc := 54) C hr hz0 rfl dX10_held_54
def rmX10_item : Room := { frames := 2, cells := 0, slots := 0, locals := 45 }
set_option maxHeartbeats 4000000 in
set_option maxRecDepth 100000 in
theorem okX10_item (E : Ev) (l : Launch) (a0 : Nat) (a1 : Int32) (a2 : Int32) (a3 : Int64) (h0 : Mem) : AMet E l yX10_item cX10_item 5 (some (.int)) rmX10_item [rf E a0, .int a1, .int a2, .long a3] h0 rvI (fX10_item a0 a1 a2 a3 h0) := by
  refine am_intro (plainFor_of_name (by decide +kernel)) (Nat.le_of_ble_eq_true rfl) (fun K hKl C hr hnm hz0 => ?_)
  replace C : CxOK K E RX10 cX10_item 5 := C
  have hE : E.1 + 1 ≤ (kS K).heap.size := by omega
  unfold fX10_item
  show Aw K E _ _ _ _ _ 0 [(0, rf E a0), (1, .int a1), (2, .int a2), (3, .long a3)] [] h0 _
  refine aw_iload_n (pc := 0) C dX10_item_0 rfl 1 rfl ?_
  refine aw_callSI (pc := 1) (R := rmX10_item) (As := [.int a1]) (rest := []) (st := [.int a1]) (c' := 0) (s' := 0) C hE cal_X10_isTape ml_X10_299 rfl ⟨(Nat.le_of_ble_eq_true rfl), (Nat.le_of_ble_eq_true rfl)⟩ ⟨(Nat.le_of_ble_eq_true rfl), (Nat.le_of_ble_eq_true rfl)⟩ dX10_item_1 (okX10_isTape E (kL K) a1 h0) rfl (Nat.le_of_ble_eq_true rfl) rfl rfl (fun v2 h1 eh1 => ?_)
  refine aw_if_ne (pc := 4) C 9 dX10_item_4 (by decide) (fun c17 => ?_) (fun c17 => ?_)
  · refine aw_iconst (pc := 7) (v := (-1)) C dX10_item_7 (by decide) ?_
    exact aw_ireturn (pc := 8) C hr rfl hz0 rfl dX10_item_8
  refine aw_aload_n (pc := 9) C dX10_item_9 rfl 0 rfl ?_
  refine aw_getR (pc := 10) C fl_X10_81 dX10_item_10 (fun v3 ev3 => ?_)
  refine aw_iload_n (pc := 13) C dX10_item_13 rfl 1 rfl ?_
  refine aw_iaload (pc := 14) C dX10_item_14 (fun v4 ev4 => ?_)
  refine aw_if_ge (pc := 15) C 21 dX10_item_15 (by decide) (fun c16 => ?_) (fun c16 => ?_)
  · refine aw_iload_n (pc := 21) C dX10_item_21 rfl 2 rfl ?_
    refine aw_i2l (pc := 22) C dX10_item_22 ?_
    refine aw_lconst (pc := 23) (v := 0) C dX10_item_23 (by decide) ?_
    refine aw_aload_n (pc := 24) C dX10_item_24 rfl 0 rfl ?_
    refine aw_getR (pc := 25) C fl_X10_84 dX10_item_25 (fun v5 ev5 => ?_)
    refine aw_iload_n (pc := 28) C dX10_item_28 rfl 1 rfl ?_
    refine aw_iaload (pc := 29) C dX10_item_29 (fun v6 ev6 => ?_)
    refine aw_iconst (pc := 30) (v := 1) C dX10_item_30 (by decide) ?_
    refine aw_isub (pc := 31) C dX10_item_31 ?_
    refine aw_i2l (pc := 32) C dX10_item_32 ?_
    refine aw_callSI (pc := 33) (R := rmX10_item) (As := [.long a2.toInt64, .long 0, .long ((v6 - 1).toInt64)]) (rest := []) (st := [.long ((v6 - 1).toInt64), .long 0, .long a2.toInt64]) (c' := 0) (s' := 0) C hE cal_X10_in ml_X10_96 rfl ⟨(Nat.le_of_ble_eq_true rfl), (Nat.le_of_ble_eq_true rfl)⟩ ⟨(Nat.le_of_ble_eq_true rfl), (Nat.le_of_ble_eq_true rfl)⟩ dX10_item_33 (okX10_in E (kL K) a2.toInt64 0 ((v6 - 1).toInt64) h1) rfl (Nat.le_of_ble_eq_true rfl) rfl rfl (fun v8 h7 eh7 => ?_)
    refine aw_if_ne (pc := 36) C 42 dX10_item_36 (by decide) (fun c15 => ?_) (fun c15 => ?_)
    · refine aw_bipush (pc := 39) (v := (-13)) C dX10_item_39 (by decide) ?_
      exact aw_ireturn (pc := 41) C hr rfl hz0 rfl dX10_item_41
    refine aw_aload_n (pc := 42) C dX10_item_42 rfl 0 rfl ?_
    refine aw_getR (pc := 43) C fl_X10_87 dX10_item_43 (fun v9 ev9 => ?_)
    refine aw_bipush (pc := 46) (v := 60) C dX10_item_46 (by decide) ?_
    refine aw_iload_n (pc := 48) C dX10_item_48 rfl 1 rfl ?_
    refine aw_imul (pc := 49) C dX10_item_49 ?_
    refine aw_iload_n (pc := 50) C dX10_item_50 rfl 2 rfl ?_
    refine aw_iadd (pc := 51) C dX10_item_51 ?_
    refine aw_aload_n (pc := 52) C dX10_item_52 rfl 0 rfl ?_
    refine aw_getR (pc := 53) C fl_X10_81 dX10_item_53 (fun v10 ev10 => ?_)
    refine aw_iload_n (pc := 56) C dX10_item_56 rfl 1 rfl ?_
    refine aw_iaload (pc := 57) C dX10_item_57 (fun v11 ev11 => ?_)
    refine aw_lload_n (pc := 58) C dX10_item_58 rfl 3 rfl ?_
    refine aw_callSJ (pc := 59) (R := rmX10_item) (As := [.int v11, .long a3]) (rest := [.int ((60 * a1) + a2), rf E v9]) (st := [.long a3, .int v11, .int ((60 * a1) + a2), rf E v9]) (c' := 0) (s' := 0) C hE cal_X10_held ml_X10_314 rfl ⟨(Nat.le_of_ble_eq_true rfl), (Nat.le_of_ble_eq_true rfl)⟩ ⟨(Nat.le_of_ble_eq_true rfl), (Nat.le_of_ble_eq_true rfl)⟩ dX10_item_59 (okX10_held E (kL K) v11 a3 h7) rfl (Nat.le_of_ble_eq_true rfl) rfl rfl (fun v13 h12 eh12 => ?_)
    refine aw_lastore (pc := 62) C dX10_item_62 (fun h14 eh14 => ?_)
    refine aw_iconst (pc := 63) (v := 1) C dX10_item_63 (by decide) ?_
    exact aw_ireturn (pc := 64) C hr rfl hz0 rfl dX10_item_64
  refine aw_bipush (pc := 18) (v := (-11)) C dX10_item_18 (by decide) ?_
  exact aw_ireturn (pc := 20) C hr rfl hz0 rfl dX10_item_20
def rmX10_peek : Room := { frames := 2, cells := 0, slots := 0, locals := 45 }
set_option maxHeartbeats 4000000 in
set_option maxRecDepth 100000 in
theorem okX10_peek (E : Ev) (l : Launch) (a0 : Nat) (a1 : Int32) (a2 : Int32) (h0 : Mem) : AMet E l yX10_peek cX10_peek 3 (some (.long)) rmX10_peek [rf E a0, .int a1, .int a2] h0 rvJ (fX10_peek a0 a1 a2 h0) := by
  refine am_intro (plainFor_of_name (by decide +kernel)) (Nat.le_of_ble_eq_true rfl) (fun K hKl C hr hnm hz0 => ?_)
  replace C : CxOK K E RX10 cX10_peek 3 := C
  have hE : E.1 + 1 ≤ (kS K).heap.size := by omega
  unfold fX10_peek
  show Aw K E _ _ _ _ _ 0 [(0, rf E a0), (1, .int a1), (2, .int a2)] [] h0 _
  refine aw_iload_n (pc := 0) C dX10_peek_0 rfl 1 rfl ?_
  refine aw_callSI (pc := 1) (R := rmX10_peek) (As := [.int a1]) (rest := []) (st := [.int a1]) (c' := 0) (s' := 0) C hE cal_X10_isTape ml_X10_299 rfl ⟨(Nat.le_of_ble_eq_true rfl), (Nat.le_of_ble_eq_true rfl)⟩ ⟨(Nat.le_of_ble_eq_true rfl), (Nat.le_of_ble_eq_true rfl)⟩ dX10_peek_1 (okX10_isTape E (kL K) a1 h0) rfl (Nat.le_of_ble_eq_true rfl) rfl rfl (fun v2 h1 eh1 => ?_)
  refine aw_if_eq (pc := 4) C 39 dX10_peek_4 (by decide) (fun c10 => ?_) (fun c10 => ?_)
  · refine aw_ldc2 (pc := 39) (v := (-9223372036854775808)) C kc_X10_213 dX10_peek_39 ?_
    exact aw_lreturn (pc := 42) C hr hz0 rfl dX10_peek_42
  refine aw_iload_n (pc := 7) C dX10_peek_7 rfl 2 rfl ?_
  refine aw_i2l (pc := 8) C dX10_peek_8 ?_
  refine aw_lconst (pc := 9) (v := 0) C dX10_peek_9 (by decide) ?_
  refine aw_aload_n (pc := 10) C dX10_peek_10 rfl 0 rfl ?_
  refine aw_getR (pc := 11) C fl_X10_84 dX10_peek_11 (fun v3 ev3 => ?_)
  refine aw_iload_n (pc := 14) C dX10_peek_14 rfl 1 rfl ?_
  refine aw_iaload (pc := 15) C dX10_peek_15 (fun v4 ev4 => ?_)
  refine aw_iconst (pc := 16) (v := 1) C dX10_peek_16 (by decide) ?_
  refine aw_isub (pc := 17) C dX10_peek_17 ?_
  refine aw_i2l (pc := 18) C dX10_peek_18 ?_
  refine aw_callSI (pc := 19) (R := rmX10_peek) (As := [.long a2.toInt64, .long 0, .long ((v4 - 1).toInt64)]) (rest := []) (st := [.long ((v4 - 1).toInt64), .long 0, .long a2.toInt64]) (c' := 0) (s' := 0) C hE cal_X10_in ml_X10_96 rfl ⟨(Nat.le_of_ble_eq_true rfl), (Nat.le_of_ble_eq_true rfl)⟩ ⟨(Nat.le_of_ble_eq_true rfl), (Nat.le_of_ble_eq_true rfl)⟩ dX10_peek_19 (okX10_in E (kL K) a2.toInt64 0 ((v4 - 1).toInt64) h1) rfl (Nat.le_of_ble_eq_true rfl) rfl rfl (fun v6 h5 eh5 => ?_)
  refine aw_if_eq (pc := 22) C 39 dX10_peek_22 (by decide) (fun c9 => ?_) (fun c9 => ?_)
  · refine aw_ldc2 (pc := 39) (v := (-9223372036854775808)) C kc_X10_213 dX10_peek_39 ?_
    exact aw_lreturn (pc := 42) C hr hz0 rfl dX10_peek_42
  refine aw_aload_n (pc := 25) C dX10_peek_25 rfl 0 rfl ?_
  refine aw_getR (pc := 26) C fl_X10_87 dX10_peek_26 (fun v7 ev7 => ?_)
  refine aw_bipush (pc := 29) (v := 60) C dX10_peek_29 (by decide) ?_
  refine aw_iload_n (pc := 31) C dX10_peek_31 rfl 1 rfl ?_
  refine aw_imul (pc := 32) C dX10_peek_32 ?_
  refine aw_iload_n (pc := 33) C dX10_peek_33 rfl 2 rfl ?_
  refine aw_iadd (pc := 34) C dX10_peek_34 ?_
  refine aw_laload (pc := 35) C dX10_peek_35 (fun v8 ev8 => ?_)
  refine aw_goto (pc := 36) C 42 dX10_peek_36 (by decide) ?_
  exact aw_lreturn (pc := 42) C hr hz0 rfl dX10_peek_42
def rmX10_areThere : Room := { frames := 0, cells := 0, slots := 0, locals := 0 }
set_option maxHeartbeats 4000000 in
set_option maxRecDepth 100000 in
theorem okX10_areThere (E : Ev) (l : Launch) (a0 : Nat) (a1 : Int32) (a2 : Int32) (a3 : Int32) (h0 : Mem) : AMet E l yX10_areThere cX10_areThere 4 (some (.boolean)) rmX10_areThere [rf E a0, .int a1, .int a2, .int a3] h0 rvI (fX10_areThere a0 a1 a2 a3 h0) := by
  refine am_intro (plainFor_of_name (by decide +kernel)) (Nat.le_of_ble_eq_true rfl) (fun K hKl C hr hnm hz0 => ?_)
  replace C : CxOK K E RX10 cX10_areThere 4 := C
  have hE : E.1 + 1 ≤ (kS K).heap.size := by omega
  unfold fX10_areThere
  show Aw K E _ _ _ _ _ 0 [(0, rf E a0), (1, .int a1), (2, .int a2), (3, .int a3)] [] h0 _
  refine aw_iload_n (pc := 0) C dX10_areThere_0 rfl 2 rfl ?_
  refine aw_if_lt (pc := 1) C 20 dX10_areThere_1 (by decide) (fun c4 => ?_) (fun c4 => ?_)
  · refine aw_iconst (pc := 20) (v := 0) C dX10_areThere_20 (by decide) ?_
    exact aw_ireturn (pc := 21) C hr rfl hz0 rfl dX10_areThere_21
  refine aw_iload_n (pc := 4) C dX10_areThere_4 rfl 3 rfl ?_
  refine aw_aload_n (pc := 5) C dX10_areThere_5 rfl 0 rfl ?_
  refine aw_getR (pc := 6) C fl_X10_84 dX10_areThere_6 (fun v1 ev1 => ?_)
  refine aw_iload_n (pc := 9) C dX10_areThere_9 rfl 1 rfl ?_
  refine aw_iaload (pc := 10) C dX10_areThere_10 (fun v2 ev2 => ?_)
  refine aw_iload_n (pc := 11) C dX10_areThere_11 rfl 2 rfl ?_
  refine aw_isub (pc := 12) C dX10_areThere_12 ?_
  refine aw_icmp_gt (pc := 13) C 20 dX10_areThere_13 (by decide) (fun c3 => ?_) (fun c3 => ?_)
  · refine aw_iconst (pc := 20) (v := 0) C dX10_areThere_20 (by decide) ?_
    exact aw_ireturn (pc := 21) C hr rfl hz0 rfl dX10_areThere_21
  refine aw_iconst (pc := 16) (v := 1) C dX10_areThere_16 (by decide) ?_
  refine aw_goto (pc := 17) C 21 dX10_areThere_17 (by decide) ?_
  exact aw_ireturn (pc := 21) C hr rfl hz0 rfl dX10_areThere_21
def rmX10_shift : Room := { frames := 2, cells := 0, slots := 0, locals := 45 }
set_option maxHeartbeats 4000000 in
set_option maxRecDepth 100000 in
theorem okX10_shift (E : Ev) (l : Launch) (a0 : Nat) (a1 : Int32) (a2 : Int32) (a3 : Int32) (a4 : Int32) (a5 : Int32) (h0 : Mem) : AMet E l yX10_shift cX10_shift 8 (some (.int)) rmX10_shift [rf E a0, .int a1, .int a2, .int a3, .int a4, .int a5] h0 rvI (fX10_shift a0 a1 a2 a3 a4 a5 h0) := by
  refine am_intro (plainFor_of_name (by decide +kernel)) (Nat.le_of_ble_eq_true rfl) (fun K hKl C hr hnm hz0 => ?_)
  replace C : CxOK K E RX10 cX10_shift 8 := C
  have hE : E.1 + 1 ≤ (kS K).heap.size := by omega
  unfold fX10_shift
  show Aw K E _ _ _ _ _ 0 [(0, rf E a0), (1, .int a1), (2, .int a2), (3, .int a3), (4, .int a4), (5, .int a5)] [] h0 _
  refine aw_iload_n (pc := 0) C dX10_shift_0 rfl 1 rfl ?_
  refine aw_callSI (pc := 1) (R := rmX10_shift) (As := [.int a1]) (rest := []) (st := [.int a1]) (c' := 0) (s' := 0) C hE cal_X10_isTape ml_X10_299 rfl ⟨(Nat.le_of_ble_eq_true rfl), (Nat.le_of_ble_eq_true rfl)⟩ ⟨(Nat.le_of_ble_eq_true rfl), (Nat.le_of_ble_eq_true rfl)⟩ dX10_shift_1 (okX10_isTape E (kL K) a1 h0) rfl (Nat.le_of_ble_eq_true rfl) rfl rfl (fun v2 h1 eh1 => ?_)
  refine aw_if_eq (pc := 4) C 14 dX10_shift_4 (by decide) (fun c38 => ?_) (fun c38 => ?_)
  · refine aw_iconst (pc := 14) (v := (-1)) C dX10_shift_14 (by decide) ?_
    exact aw_ireturn (pc := 15) C hr rfl hz0 rfl dX10_shift_15
  refine aw_iload_n (pc := 7) C dX10_shift_7 rfl 3 rfl ?_
  refine aw_callSI (pc := 8) (R := rmX10_shift) (As := [.int a3]) (rest := []) (st := [.int a3]) (c' := 0) (s' := 0) C hE cal_X10_isTape ml_X10_299 rfl ⟨(Nat.le_of_ble_eq_true rfl), (Nat.le_of_ble_eq_true rfl)⟩ ⟨(Nat.le_of_ble_eq_true rfl), (Nat.le_of_ble_eq_true rfl)⟩ dX10_shift_8 (okX10_isTape E (kL K) a3 h1) rfl (Nat.le_of_ble_eq_true rfl) rfl rfl (fun v4 h3 eh3 => ?_)
  refine aw_if_ne (pc := 11) C 16 dX10_shift_11 (by decide) (fun c37 => ?_) (fun c37 => ?_)
  · refine aw_iconst (pc := 14) (v := (-1)) C dX10_shift_14 (by decide) ?_
    exact aw_ireturn (pc := 15) C hr rfl hz0 rfl dX10_shift_15
  refine aw_aload_n (pc := 16) C dX10_shift_16 rfl 0 rfl ?_
  refine aw_getR (pc := 17) C fl_X10_81 dX10_shift_17 (fun v5 ev5 => ?_)
  refine aw_iload_n (pc := 20) C dX10_shift_20 rfl 1 rfl ?_
  refine aw_iaload (pc := 21) C dX10_shift_21 (fun v6 ev6 => ?_)
  refine aw_if_lt (pc := 22) C 34 dX10_shift_22 (by decide) (fun c36 => ?_) (fun c36 => ?_)
  · refine aw_bipush (pc := 34) (v := (-11)) C dX10_shift_34 (by decide) ?_
    exact aw_ireturn (pc := 36) C hr rfl hz0 rfl dX10_shift_36
  refine aw_aload_n (pc := 25) C dX10_shift_25 rfl 0 rfl ?_
  refine aw_getR (pc := 26) C fl_X10_81 dX10_shift_26 (fun v7 ev7 => ?_)
  refine aw_iload_n (pc := 29) C dX10_shift_29 rfl 3 rfl ?_
  refine aw_iaload (pc := 30) C dX10_shift_30 (fun v8 ev8 => ?_)
  refine aw_if_ge (pc := 31) C 37 dX10_shift_31 (by decide) (fun c35 => ?_) (fun c35 => ?_)
  · refine aw_aload_n (pc := 37) C dX10_shift_37 rfl 0 rfl ?_
    refine aw_getR (pc := 38) C fl_X10_81 dX10_shift_38 (fun v9 ev9 => ?_)
    refine aw_iload_n (pc := 41) C dX10_shift_41 rfl 1 rfl ?_
    refine aw_iaload (pc := 42) C dX10_shift_42 (fun v10 ev10 => ?_)
    refine aw_aload_n (pc := 43) C dX10_shift_43 rfl 0 rfl ?_
    refine aw_getR (pc := 44) C fl_X10_81 dX10_shift_44 (fun v11 ev11 => ?_)
    refine aw_iload_n (pc := 47) C dX10_shift_47 rfl 3 rfl ?_
    refine aw_iaload (pc := 48) C dX10_shift_48 (fun v12 ev12 => ?_)
    refine aw_icmp_eq (pc := 49) C 55 dX10_shift_49 (by decide) (fun c34 => ?_) (fun c34 => ?_)
    · refine aw_iload (pc := 55) C dX10_shift_55 5 rfl ?_
      refine aw_if_lt (pc := 57) C 83 dX10_shift_57 (by decide) (fun c33 => ?_) (fun c33 => ?_)
      · refine aw_bipush (pc := 83) (v := (-13)) C dX10_shift_83 (by decide) ?_
        exact aw_ireturn (pc := 85) C hr rfl hz0 rfl dX10_shift_85
      refine aw_aload_n (pc := 60) C dX10_shift_60 rfl 0 rfl ?_
      refine aw_iload_n (pc := 61) C dX10_shift_61 rfl 1 rfl ?_
      refine aw_iload_n (pc := 62) C dX10_shift_62 rfl 2 rfl ?_
      refine aw_iload (pc := 63) C dX10_shift_63 5 rfl ?_
      refine aw_callVI (pc := 65) (R := rmX10_shift) (c := 10) (As := [.int a1, .int a2, .int a5]) (rest := []) (st := [.int a5, .int a2, .int a1, rf E a0]) (c' := 0) (s' := 0) C hE rfl (by decide) cal_X10_areThere ml_X10_318 rfl ⟨(Nat.le_of_ble_eq_true rfl), (Nat.le_of_ble_eq_true rfl)⟩ ⟨(Nat.le_of_ble_eq_true rfl), (Nat.le_of_ble_eq_true rfl)⟩ dX10_shift_65 (okX10_areThere E (kL K) a0 a1 a2 a5 h3) rfl (Nat.le_of_ble_eq_true rfl) rfl rfl (fun v14 h13 eh13 => ?_)
      refine aw_if_eq (pc := 68) C 83 dX10_shift_68 (by decide) (fun c32 => ?_) (fun c32 => ?_)
      · refine aw_bipush (pc := 83) (v := (-13)) C dX10_shift_83 (by decide) ?_
        exact aw_ireturn (pc := 85) C hr rfl hz0 rfl dX10_shift_85
      refine aw_aload_n (pc := 71) C dX10_shift_71 rfl 0 rfl ?_
      refine aw_iload_n (pc := 72) C dX10_shift_72 rfl 3 rfl ?_
      refine aw_iload (pc := 73) C dX10_shift_73 4 rfl ?_
      refine aw_iload (pc := 75) C dX10_shift_75 5 rfl ?_
      refine aw_callVI (pc := 77) (R := rmX10_shift) (c := 10) (As := [.int a3, .int a4, .int a5]) (rest := []) (st := [.int a5, .int a4, .int a3, rf E a0]) (c' := 0) (s' := 0) C hE rfl (by decide) cal_X10_areThere ml_X10_318 rfl ⟨(Nat.le_of_ble_eq_true rfl), (Nat.le_of_ble_eq_true rfl)⟩ ⟨(Nat.le_of_ble_eq_true rfl), (Nat.le_of_ble_eq_true rfl)⟩ dX10_shift_77 (okX10_areThere E (kL K) a0 a3 a4 a5 h13) rfl (Nat.le_of_ble_eq_true rfl) rfl rfl (fun v16 h15 eh15 => ?_)
      refine aw_if_ne (pc := 80) C 86 dX10_shift_80 (by decide) (fun c31 => ?_) (fun c31 => ?_)
      · refine aw_bipush (pc := 83) (v := (-13)) C dX10_shift_83 (by decide) ?_
        exact aw_ireturn (pc := 85) C hr rfl hz0 rfl dX10_shift_85
      refine aw_iconst (pc := 86) (v := 0) C dX10_shift_86 (by decide) ?_
      refine aw_istore (pc := 87) (L' := [(6, .int 0), (0, rf E a0), (1, .int a1), (2, .int a2), (3, .int a3), (4, .int a4), (5, .int a5)]) C dX10_shift_87 (by decide) rfl ?_
      refine aw_sub (L' := [(0, rf E a0), (1, .int a1), (2, .int a2), (3, .int a3), (4, .int a4), (5, .int a5), (6, .int 0)]) [1, 2, 3, 4, 5, 6, 0] rfl ?_
      refine aw_loop (pc := 89) (σ := Int32 × Mem) (fun s => [(0, rf E a0), (1, .int a1), (2, .int a2), (3, .int a3), (4, .int a4), (5, .int a5), (6, .int s.1)]) (fun s => s.2) _ (fun k19 ih20 s => ?_) _ _
      obtain ⟨v17, h18⟩ := s
      show Aw K E _ _ _ _ _ 89 [(0, rf E a0), (1, .int a1), (2, .int a2), (3, .int a3), (4, .int a4), (5, .int a5), (6, .int v17)] [] h18 _
      refine aw_iload (pc := 89) C dX10_shift_89 6 rfl ?_
      refine aw_iload (pc := 91) C dX10_shift_91 5 rfl ?_
      refine aw_icmp_ge (pc := 93) C 151 dX10_shift_93 (by decide) (fun c30 => ?_) (fun c30 => ?_)
      · refine aw_iload (pc := 151) C dX10_shift_151 5 rfl ?_
        exact aw_ireturn (pc := 153) C hr rfl hz0 rfl dX10_shift_153
      refine aw_iload_n (pc := 96) C dX10_shift_96 rfl 2 rfl ?_
      refine aw_iload (pc := 97) C dX10_shift_97 4 rfl ?_
      refine aw_jn (σ := Int32) 114 (fun s => [(0, rf E a0), (1, .int a1), (2, .int a2), (3, .int a3), (4, .int a4), (5, .int a5), (6, .int v17)]) (fun s => [.int s]) (fun s => h18) (fun s => ?_) (fun k22 jk23 => ?_)
      · generalize s = v21
        show Aw K E _ _ _ _ _ 114 [(0, rf E a0), (1, .int a1), (2, .int a2), (3, .int a3), (4, .int a4), (5, .int a5), (6, .int v17)] [.int v21] h18 _
        refine aw_istore (pc := 114) (L' := [(7, .int v21), (0, rf E a0), (1, .int a1), (2, .int a2), (3, .int a3), (4, .int a4), (5, .int a5), (6, .int v17)]) C dX10_shift_114 (by decide) rfl ?_
        refine aw_aload_n (pc := 116) C dX10_shift_116 rfl 1 rfl ?_
        refine aw_getR (pc := 117) C fl_X10_87 dX10_shift_117 (fun v24 ev24 => ?_)
        refine aw_bipush (pc := 120) (v := 60) C dX10_shift_120 (by decide) ?_
        refine aw_iload_n (pc := 122) C dX10_shift_122 rfl 4 rfl ?_
        refine aw_imul (pc := 123) C dX10_shift_123 ?_
        refine aw_iload (pc := 124) C dX10_shift_124 5 rfl ?_
        refine aw_iadd (pc := 126) C dX10_shift_126 ?_
        refine aw_iload (pc := 127) C dX10_shift_127 0 rfl ?_
        refine aw_iadd (pc := 129) C dX10_shift_129 ?_
        refine aw_aload_n (pc := 130) C dX10_shift_130 rfl 1 rfl ?_
        refine aw_getR (pc := 131) C fl_X10_87 dX10_shift_131 (fun v25 ev25 => ?_)
        refine aw_bipush (pc := 134) (v := 60) C dX10_shift_134 (by decide) ?_
        refine aw_iload_n (pc := 136) C dX10_shift_136 rfl 2 rfl ?_
        refine aw_imul (pc := 137) C dX10_shift_137 ?_
        refine aw_iload_n (pc := 138) C dX10_shift_138 rfl 3 rfl ?_
        refine aw_iadd (pc := 139) C dX10_shift_139 ?_
        refine aw_iload (pc := 140) C dX10_shift_140 0 rfl ?_
        refine aw_iadd (pc := 142) C dX10_shift_142 ?_
        refine aw_laload (pc := 143) C dX10_shift_143 (fun v26 ev26 => ?_)
        refine aw_lastore (pc := 144) C dX10_shift_144 (fun h27 eh27 => ?_)
        refine aw_iincN (pc := 145) (L1 := [(7, .int v21), (0, rf E a0), (1, .int a1), (2, .int a2), (3, .int a3), (4, .int a4), (5, .int a5)]) (k := 1) C dX10_shift_145 7 rfl (by decide) (by decide) rfl (fun v28 ev28 => ?_)
        refine aw_goto (pc := 148) C 89 dX10_shift_148 (by decide) ?_
        exact aw_sub (L' := [(0, rf E a0), (1, .int a1), (2, .int a2), (3, .int a3), (4, .int a4), (5, .int a5), (6, .int v28)]) [2, 3, 4, 5, 6, 7, 0] rfl (ih20 (v28, h27))
      refine aw_icmp_ge (pc := 99) C 112 dX10_shift_99 (by decide) (fun c29 => ?_) (fun c29 => ?_)
      · refine aw_iload (pc := 112) C dX10_shift_112 6 rfl ?_
        exact aw_sub (L' := [(0, rf E a0), (1, .int a1), (2, .int a2), (3, .int a3), (4, .int a4), (5, .int a5), (6, .int v17)]) [0, 1, 2, 3, 4, 5, 6] rfl (jk23 v17)
      refine aw_iload (pc := 102) C dX10_shift_102 5 rfl ?_
      refine aw_iconst (pc := 104) (v := 1) C dX10_shift_104 (by decide) ?_
      refine aw_isub (pc := 105) C dX10_shift_105 ?_
      refine aw_iload (pc := 106) C dX10_shift_106 6 rfl ?_
      refine aw_isub (pc := 108) C dX10_shift_108 ?_
      refine aw_goto (pc := 109) C 114 dX10_shift_109 (by decide) ?_
      exact aw_sub (L' := [(0, rf E a0), (1, .int a1), (2, .int a2), (3, .int a3), (4, .int a4), (5, .int a5), (6, .int v17)]) [0, 1, 2, 3, 4, 5, 6] rfl (jk23 ((a5 - 1) - v17))
    refine aw_bipush (pc := 52) (v := (-12)) C dX10_shift_52 (by decide) ?_
    exact aw_ireturn (pc := 54) C hr rfl hz0 rfl dX10_shift_54
  refine aw_bipush (pc := 34) (v := (-11)) C dX10_shift_34 (by decide) ?_
  exact aw_ireturn (pc := 36) C hr rfl hz0 rfl dX10_shift_36
