def rmX10_mean : Room := { frames := 2, cells := 0, slots := 0, locals := 52 }
set_option maxHeartbeats 4000000 in
set_option maxRecDepth 100000 in
theorem okX10_mean (E : Ev) (l : Launch) (a0 : Nat) (a1 : Int32) (h0 : Mem) : AMet E l yX10_mean cX10_mean 6 (some (.long)) rmX10_mean [rf E a0, .int a1] h0 rvJ (fX10_mean a0 a1 h0) := by
  refine am_intro (plainFor_of_name (by decide +kernel)) (Nat.le_of_ble_eq_true rfl) (fun K hKl C hr hnm hz0 => ?_)
  replace C : CxOK K E RX10 cX10_mean 6 := C
  have hE : E.1 + 1 ≤ (kS K).heap.size := by omega
  unfold fX10_mean
  show Aw K E _ _ _ _ _ 0 [(0, rf E a0), (1, .int a1)] [] h0 _
  refine aw_iload_n (pc := 0) C dX10_mean_0 rfl 1 rfl ?_
  refine aw_i2l (pc := 1) C dX10_mean_1 ?_
  refine aw_lconst (pc := 2) (v := 0) C dX10_mean_2 (by decide) ?_
  refine aw_lconst (pc := 3) (v := 1) C dX10_mean_3 (by decide) ?_
  refine aw_callSI (pc := 4) (R := rmX10_mean) (As := [.long a1.toInt64, .long 0, .long 1]) (rest := []) (st := [.long 1, .long 0, .long a1.toInt64]) (c' := 0) (s' := 0) C hE cal_X10_in ml_X10_96 rfl ⟨(Nat.le_of_ble_eq_true rfl), (Nat.le_of_ble_eq_true rfl)⟩ ⟨(Nat.le_of_ble_eq_true rfl), (Nat.le_of_ble_eq_true rfl)⟩ dX10_mean_4 (okX10_in E (kL K) a1.toInt64 0 1 h0) rfl (Nat.le_of_ble_eq_true rfl) rfl rfl (fun v2 h1 eh1 => ?_)
  refine aw_if_ne (pc := 7) C 14 dX10_mean_7 (by decide) (fun c30 => ?_) (fun c30 => ?_)
  · refine aw_ldc2 (pc := 10) (v := (-9223372036854775808)) C kc_X10_213 dX10_mean_10 ?_
    exact aw_lreturn (pc := 13) C hr hz0 rfl dX10_mean_13
  refine aw_lconst (pc := 14) (v := 0) C dX10_mean_14 (by decide) ?_
  refine aw_lstore_n (pc := 15) (L' := [(2, .long 0), (0, rf E a0), (1, .int a1)]) C dX10_mean_15 rfl (by decide) rfl ?_
  refine aw_aload_n (pc := 16) C dX10_mean_16 rfl 1 rfl ?_
  refine aw_getI (pc := 17) C fl_X10_22 dX10_mean_17 (fun v3 ev3 => ?_)
  refine aw_ineg (pc := 20) C dX10_mean_20 ?_
  refine aw_nmI (pc := 21) (fun v4 ev4 => ?_)
  refine aw_istore (pc := 21) (L' := [(4, .int v4), (2, .long 0), (0, rf E a0), (1, .int a1)]) C dX10_mean_21 (by decide) rfl ?_
  refine aw_sub (L' := [(0, rf E a0), (1, .int a1), (2, .long 0), (4, .int v4)]) [2, 3, 1, 0] rfl ?_
  refine aw_loop (pc := 23) (σ := Int64 × Int32 × Mem) (fun s => [(0, rf E a0), (1, .int a1), (2, .long s.1), (4, .int s.2.1)]) (fun s => s.2.2) _ (fun k8 ih9 s => ?_) _ _
  obtain ⟨v5, v6, h7⟩ := s
  show Aw K E _ _ _ _ _ 23 [(0, rf E a0), (1, .int a1), (2, .long v5), (4, .int v6)] [] h7 _
  refine aw_iload (pc := 23) C dX10_mean_23 3 rfl ?_
  refine aw_aload_n (pc := 25) C dX10_mean_25 rfl 0 rfl ?_
  refine aw_getI (pc := 26) C fl_X10_22 dX10_mean_26 (fun v10 ev10 => ?_)
  refine aw_icmp_gt (pc := 29) C 73 dX10_mean_29 (by decide) (fun c29 => ?_) (fun c29 => ?_)
  · refine aw_lload_n (pc := 73) C dX10_mean_73 rfl 2 rfl ?_
    refine aw_ldc2 (pc := 74) (v := 2) C kc_X10_100 dX10_mean_74 ?_
    refine aw_aload_n (pc := 77) C dX10_mean_77 rfl 0 rfl ?_
    refine aw_getI (pc := 78) C fl_X10_22 dX10_mean_78 (fun v25 ev25 => ?_)
    refine aw_i2l (pc := 81) C dX10_mean_81 ?_
    refine aw_lmul (pc := 82) C dX10_mean_82 ?_
    refine aw_lconst (pc := 83) (v := 1) C dX10_mean_83 (by decide) ?_
    refine aw_ladd (pc := 84) C dX10_mean_84 ?_
    refine aw_ldc2 (pc := 85) (v := 2) C kc_X10_100 dX10_mean_85 ?_
    refine aw_aload_n (pc := 88) C dX10_mean_88 rfl 0 rfl ?_
    refine aw_getI (pc := 89) C fl_X10_22 dX10_mean_89 (fun v26 ev26 => ?_)
    refine aw_i2l (pc := 92) C dX10_mean_92 ?_
    refine aw_lmul (pc := 93) C dX10_mean_93 ?_
    refine aw_lconst (pc := 94) (v := 1) C dX10_mean_94 (by decide) ?_
    refine aw_ladd (pc := 95) C dX10_mean_95 ?_
    refine aw_lmul (pc := 96) C dX10_mean_96 ?_
    refine aw_iload_n (pc := 97) C dX10_mean_97 rfl 1 rfl ?_
    refine aw_callSJ (pc := 98) (R := rmX10_mean) (As := [.long v5, .long (((2 * v25.toInt64) + 1) * ((2 * v26.toInt64) + 1)), .int a1]) (rest := []) (st := [.int a1, .long (((2 * v25.toInt64) + 1) * ((2 * v26.toInt64) + 1)), .long v5]) (c' := 0) (s' := 0) C hE cal_X10_lowest ml_X10_279 rfl ⟨(Nat.le_of_ble_eq_true rfl), (Nat.le_of_ble_eq_true rfl)⟩ ⟨(Nat.le_of_ble_eq_true rfl), (Nat.le_of_ble_eq_true rfl)⟩ dX10_mean_98 (okX10_lowest E (kL K) v5 (((2 * v25.toInt64) + 1) * ((2 * v26.toInt64) + 1)) a1 h7) rfl (Nat.le_of_ble_eq_true rfl) rfl rfl (fun v28 h27 eh27 => ?_)
    exact aw_lreturn (pc := 101) C hr hz0 rfl dX10_mean_101
  refine aw_aload_n (pc := 32) C dX10_mean_32 rfl 0 rfl ?_
  refine aw_getI (pc := 33) C fl_X10_22 dX10_mean_33 (fun v11 ev11 => ?_)
  refine aw_ineg (pc := 36) C dX10_mean_36 ?_
  refine aw_nmI (pc := 37) (fun v12 ev12 => ?_)
  refine aw_istore (pc := 37) (L' := [(5, .int v12), (0, rf E a0), (1, .int a1), (2, .long v5), (4, .int v6)]) C dX10_mean_37 (by decide) rfl ?_
  refine aw_sub (L' := [(0, rf E a0), (1, .int a1), (2, .long v5), (4, .int v6), (5, .int v12)]) [1, 2, 3, 4, 0] rfl ?_
  refine aw_loop (pc := 39) (σ := Int64 × Int32 × Mem) (fun s => [(0, rf E a0), (1, .int a1), (2, .long s.1), (4, .int v6), (5, .int s.2.1)]) (fun s => s.2.2) _ (fun k16 ih17 s => ?_) _ _
  obtain ⟨v13, v14, h15⟩ := s
  show Aw K E _ _ _ _ _ 39 [(0, rf E a0), (1, .int a1), (2, .long v13), (4, .int v6), (5, .int v14)] [] h15 _
  refine aw_iload (pc := 39) C dX10_mean_39 4 rfl ?_
  refine aw_aload_n (pc := 41) C dX10_mean_41 rfl 0 rfl ?_
  refine aw_getI (pc := 42) C fl_X10_22 dX10_mean_42 (fun v18 ev18 => ?_)
  refine aw_icmp_gt (pc := 45) C 67 dX10_mean_45 (by decide) (fun c24 => ?_) (fun c24 => ?_)
  · refine aw_iincN (pc := 67) (L1 := [(0, rf E a0), (1, .int a1), (2, .long v13), (5, .int v14)]) (k := 1) C dX10_mean_67 3 rfl (by decide) (by decide) rfl (fun v23 ev23 => ?_)
    refine aw_goto (pc := 70) C 23 dX10_mean_70 (by decide) ?_
    exact aw_sub (L' := [(0, rf E a0), (1, .int a1), (2, .long v13), (4, .int v23)]) [1, 2, 3, 0] rfl (ih9 (v13, v23, h15))
  refine aw_lload_n (pc := 48) C dX10_mean_48 rfl 2 rfl ?_
  refine aw_aload_n (pc := 49) C dX10_mean_49 rfl 0 rfl ?_
  refine aw_iload (pc := 50) C dX10_mean_50 3 rfl ?_
  refine aw_i2l (pc := 52) C dX10_mean_52 ?_
  refine aw_iload (pc := 53) C dX10_mean_53 4 rfl ?_
  refine aw_i2l (pc := 55) C dX10_mean_55 ?_
  refine aw_callVJ (pc := 56) (R := rmX10_mean) (c := 10) (As := [.long v6.toInt64, .long v14.toInt64]) (rest := [.long v13]) (st := [.long v14.toInt64, .long v6.toInt64, rf E a0, .long v13]) (c' := 0) (s' := 0) C hE rfl (by decide) cal_X10_valueAt ml_X10_146 rfl ⟨(Nat.le_of_ble_eq_true rfl), (Nat.le_of_ble_eq_true rfl)⟩ ⟨(Nat.le_of_ble_eq_true rfl), (Nat.le_of_ble_eq_true rfl)⟩ dX10_mean_56 (okX10_valueAt E (kL K) a0 v6.toInt64 v14.toInt64 h15) rfl (Nat.le_of_ble_eq_true rfl) rfl rfl (fun v20 h19 eh19 => ?_)
  refine aw_ladd (pc := 59) C dX10_mean_59 ?_
  refine aw_nmJ (pc := 60) (fun v21 ev21 => ?_)
  refine aw_lstore_n (pc := 60) (L' := [(2, .long v21), (0, rf E a0), (1, .int a1), (4, .int v6), (5, .int v14)]) C dX10_mean_60 rfl (by decide) rfl ?_
  refine aw_iincN (pc := 61) (L1 := [(2, .long v21), (0, rf E a0), (1, .int a1), (4, .int v6)]) (k := 1) C dX10_mean_61 4 rfl (by decide) (by decide) rfl (fun v22 ev22 => ?_)
  refine aw_goto (pc := 64) C 39 dX10_mean_64 (by decide) ?_
  exact aw_sub (L' := [(0, rf E a0), (1, .int a1), (2, .long v21), (4, .int v6), (5, .int v22)]) [2, 3, 1, 4, 0] rfl (ih17 (v21, v22, h19))
def rmX10_event : Room := { frames := 2, cells := 0, slots := 0, locals := 46 }
set_option maxHeartbeats 4000000 in
set_option maxRecDepth 100000 in
theorem okX10_event (E : Ev) (l : Launch) (a0 : Nat) (a1 : Int32) (a2 : Int32) (h0 : Mem) : AMet E l yX10_event cX10_event 3 (some (.int)) rmX10_event [rf E a0, .int a1, .int a2] h0 rvI (fX10_event a0 a1 a2 h0) := by
  refine am_intro (plainFor_of_name (by decide +kernel)) (Nat.le_of_ble_eq_true rfl) (fun K hKl C hr hnm hz0 => ?_)
  replace C : CxOK K E RX10 cX10_event 3 := C
  have hE : E.1 + 1 ≤ (kS K).heap.size := by omega
  unfold fX10_event
  show Aw K E _ _ _ _ _ 0 [(0, rf E a0), (1, .int a1), (2, .int a2)] [] h0 _
  refine aw_iload_n (pc := 0) C dX10_event_0 rfl 1 rfl ?_
  refine aw_iconst (pc := 1) (v := (-1)) C dX10_event_1 (by decide) ?_
  refine aw_icmp_ne (pc := 2) C 12 dX10_event_2 (by decide) (fun c37 => ?_) (fun c37 => ?_)
  · refine aw_aload_n (pc := 5) C dX10_event_5 rfl 0 rfl ?_
    refine aw_iconst (pc := 6) (v := 0) C dX10_event_6 (by decide) ?_
    refine aw_putI (pc := 7) C fw_X10_283 rfl rfl dX10_event_7 (fun h1 eh1 => ?_)
    refine aw_iconst (pc := 10) (v := 0) C dX10_event_10 (by decide) ?_
    exact aw_ireturn (pc := 11) C hr rfl hz0 rfl dX10_event_11
  refine aw_iload_n (pc := 12) C dX10_event_12 rfl 1 rfl ?_
  refine aw_i2l (pc := 13) C dX10_event_13 ?_
  refine aw_lconst (pc := 14) (v := 0) C dX10_event_14 (by decide) ?_
  refine aw_ldc2 (pc := 15) (v := 2) C kc_X10_100 dX10_event_15 ?_
  refine aw_callSI (pc := 18) (R := rmX10_event) (As := [.long a1.toInt64, .long 0, .long 2]) (rest := []) (st := [.long 2, .long 0, .long a1.toInt64]) (c' := 0) (s' := 0) C hE cal_X10_in ml_X10_96 rfl ⟨(Nat.le_of_ble_eq_true rfl), (Nat.le_of_ble_eq_true rfl)⟩ ⟨(Nat.le_of_ble_eq_true rfl), (Nat.le_of_ble_eq_true rfl)⟩ dX10_event_18 (okX10_in E (kL K) a1.toInt64 0 2 h0) rfl (Nat.le_of_ble_eq_true rfl) rfl rfl (fun v3 h2 eh2 => ?_)
  refine aw_if_eq (pc := 21) C 53 dX10_event_21 (by decide) (fun c36 => ?_) (fun c36 => ?_)
  · refine aw_iconst (pc := 53) (v := (-1)) C dX10_event_53 (by decide) ?_
    exact aw_ireturn (pc := 54) C hr rfl hz0 rfl dX10_event_54
  refine aw_iload_n (pc := 24) C dX10_event_24 rfl 1 rfl ?_
  refine aw_jn (σ := Mem) 36 (fun s => [(0, rf E a0), (1, .int a1), (2, .int a2)]) (fun s => []) (fun s => s) (fun s => ?_) (fun k5 jk6 => ?_)
  · generalize s = h4
    show Aw K E _ _ _ _ _ 36 [(0, rf E a0), (1, .int a1), (2, .int a2)] [] h4 _
    refine aw_iload_n (pc := 36) C dX10_event_36 rfl 1 rfl ?_
    refine aw_iconst (pc := 37) (v := 1) C dX10_event_37 (by decide) ?_
    refine aw_jn (σ := Mem) 55 (fun s => [(0, rf E a0), (1, .int a1), (2, .int a2)]) (fun s => []) (fun s => s) (fun s => ?_) (fun k8 jk9 => ?_)
    · generalize s = h7
      show Aw K E _ _ _ _ _ 55 [(0, rf E a0), (1, .int a1), (2, .int a2)] [] h7 _
      refine aw_iload_n (pc := 55) C dX10_event_55 rfl 1 rfl ?_
      refine aw_iconst (pc := 56) (v := 2) C dX10_event_56 (by decide) ?_
      refine aw_jn (σ := Mem) 77 (fun s => [(0, rf E a0), (1, .int a1), (2, .int a2)]) (fun s => []) (fun s => s) (fun s => ?_) (fun k11 jk12 => ?_)
      · generalize s = h10
        show Aw K E _ _ _ _ _ 77 [(0, rf E a0), (1, .int a1), (2, .int a2)] [] h10 _
        refine aw_aload_n (pc := 77) C dX10_event_77 rfl 0 rfl ?_
        refine aw_getI (pc := 78) C fl_X10_283 dX10_event_78 (fun v13 ev13 => ?_)
        refine aw_bipush (pc := 81) (v := 8) C dX10_event_81 (by decide) ?_
        refine aw_icmp_ne (pc := 83) C 89 dX10_event_83 (by decide) (fun c23 => ?_) (fun c23 => ?_)
        · refine aw_bipush (pc := 86) (v := (-4)) C dX10_event_86 (by decide) ?_
          exact aw_ireturn (pc := 88) C hr rfl hz0 rfl dX10_event_88
        refine aw_aload_n (pc := 89) C dX10_event_89 rfl 0 rfl ?_
        refine aw_getR (pc := 90) C fl_X10_29 dX10_event_90 (fun v14 ev14 => ?_)
        refine aw_iconst (pc := 93) (v := 2) C dX10_event_93 (by decide) ?_
        refine aw_aload_n (pc := 94) C dX10_event_94 rfl 0 rfl ?_
        refine aw_getI (pc := 95) C fl_X10_283 dX10_event_95 (fun v15 ev15 => ?_)
        refine aw_imul (pc := 98) C dX10_event_98 ?_
        refine aw_iload_n (pc := 99) C dX10_event_99 rfl 1 rfl ?_
        refine aw_iastore (pc := 100) C dX10_event_100 (fun h16 eh16 => ?_)
        refine aw_aload_n (pc := 101) C dX10_event_101 rfl 0 rfl ?_
        refine aw_getR (pc := 102) C fl_X10_29 dX10_event_102 (fun v17 ev17 => ?_)
        refine aw_iconst (pc := 105) (v := 2) C dX10_event_105 (by decide) ?_
        refine aw_aload_n (pc := 106) C dX10_event_106 rfl 0 rfl ?_
        refine aw_getI (pc := 107) C fl_X10_283 dX10_event_107 (fun v18 ev18 => ?_)
        refine aw_imul (pc := 110) C dX10_event_110 ?_
        refine aw_iconst (pc := 111) (v := 1) C dX10_event_111 (by decide) ?_
        refine aw_iadd (pc := 112) C dX10_event_112 ?_
        refine aw_iload_n (pc := 113) C dX10_event_113 rfl 2 rfl ?_
        refine aw_iastore (pc := 114) C dX10_event_114 (fun h19 eh19 => ?_)
        refine aw_aload_n (pc := 115) C dX10_event_115 rfl 0 rfl ?_
        refine aw_dup (pc := 116) C rfl dX10_event_116 ?_
        refine aw_getI (pc := 117) C fl_X10_283 dX10_event_117 (fun v20 ev20 => ?_)
        refine aw_iconst (pc := 120) (v := 1) C dX10_event_120 (by decide) ?_
        refine aw_iadd (pc := 121) C dX10_event_121 ?_
        refine aw_putI (pc := 122) C fw_X10_283 rfl rfl dX10_event_122 (fun h21 eh21 => ?_)
        refine aw_aload_n (pc := 125) C dX10_event_125 rfl 0 rfl ?_
        refine aw_getI (pc := 126) C fl_X10_283 dX10_event_126 (fun v22 ev22 => ?_)
        exact aw_ireturn (pc := 129) C hr rfl hz0 rfl dX10_event_129
      refine aw_icmp_ne (pc := 57) C 77 dX10_event_57 (by decide) (fun c27 => ?_) (fun c27 => ?_)
      · refine aw_iload_n (pc := 60) C dX10_event_60 rfl 2 rfl ?_
        refine aw_i2l (pc := 61) C dX10_event_61 ?_
        refine aw_ldc2 (pc := 62) (v := (-99)) C kc_X10_108 dX10_event_62 ?_
        refine aw_ldc2 (pc := 65) (v := 99) C kc_X10_110 dX10_event_65 ?_
        refine aw_callSI (pc := 68) (R := rmX10_event) (As := [.long a2.toInt64, .long (-99), .long 99]) (rest := []) (st := [.long 99, .long (-99), .long a2.toInt64]) (c' := 0) (s' := 0) C hE cal_X10_in ml_X10_96 rfl ⟨(Nat.le_of_ble_eq_true rfl), (Nat.le_of_ble_eq_true rfl)⟩ ⟨(Nat.le_of_ble_eq_true rfl), (Nat.le_of_ble_eq_true rfl)⟩ dX10_event_68 (okX10_in E (kL K) a2.toInt64 (-99) 99 h7) rfl (Nat.le_of_ble_eq_true rfl) rfl rfl (fun v25 h24 eh24 => ?_)
        refine aw_if_ne (pc := 71) C 77 dX10_event_71 (by decide) (fun c26 => ?_) (fun c26 => ?_)
        · refine aw_bipush (pc := 74) (v := (-2)) C dX10_event_74 (by decide) ?_
          exact aw_ireturn (pc := 76) C hr rfl hz0 rfl dX10_event_76
        exact aw_sub (L' := [(0, rf E a0), (1, .int a1), (2, .int a2)]) [0, 1, 2] rfl (jk12 h24)
      exact aw_sub (L' := [(0, rf E a0), (1, .int a1), (2, .int a2)]) [0, 1, 2] rfl (jk12 h7)
    refine aw_icmp_ne (pc := 38) C 55 dX10_event_38 (by decide) (fun c31 => ?_) (fun c31 => ?_)
    · refine aw_iload_n (pc := 41) C dX10_event_41 rfl 2 rfl ?_
      refine aw_i2l (pc := 42) C dX10_event_42 ?_
      refine aw_lconst (pc := 43) (v := 0) C dX10_event_43 (by decide) ?_
      refine aw_ldc2 (pc := 44) (v := 4) C kc_X10_102 dX10_event_44 ?_
      refine aw_callSI (pc := 47) (R := rmX10_event) (As := [.long a2.toInt64, .long 0, .long 4]) (rest := []) (st := [.long 4, .long 0, .long a2.toInt64]) (c' := 0) (s' := 0) C hE cal_X10_in ml_X10_96 rfl ⟨(Nat.le_of_ble_eq_true rfl), (Nat.le_of_ble_eq_true rfl)⟩ ⟨(Nat.le_of_ble_eq_true rfl), (Nat.le_of_ble_eq_true rfl)⟩ dX10_event_47 (okX10_in E (kL K) a2.toInt64 0 4 h4) rfl (Nat.le_of_ble_eq_true rfl) rfl rfl (fun v29 h28 eh28 => ?_)
      refine aw_if_ne (pc := 50) C 55 dX10_event_50 (by decide) (fun c30 => ?_) (fun c30 => ?_)
      · refine aw_iconst (pc := 53) (v := (-1)) C dX10_event_53 (by decide) ?_
        exact aw_ireturn (pc := 54) C hr rfl hz0 rfl dX10_event_54
      exact aw_sub (L' := [(0, rf E a0), (1, .int a1), (2, .int a2)]) [0, 1, 2] rfl (jk9 h28)
    exact aw_sub (L' := [(0, rf E a0), (1, .int a1), (2, .int a2)]) [0, 1, 2] rfl (jk9 h4)
  refine aw_if_ne (pc := 25) C 36 dX10_event_25 (by decide) (fun c35 => ?_) (fun c35 => ?_)
  · refine aw_aload_n (pc := 28) C dX10_event_28 rfl 0 rfl ?_
    refine aw_iload_n (pc := 29) C dX10_event_29 rfl 2 rfl ?_
    refine aw_callVI (pc := 30) (R := rmX10_event) (c := 10) (As := [.int a2]) (rest := []) (st := [.int a2, rf E a0]) (c' := 0) (s' := 0) C hE rfl (by decide) cal_X10_isNumber ml_X10_104 rfl ⟨(Nat.le_of_ble_eq_true rfl), (Nat.le_of_ble_eq_true rfl)⟩ ⟨(Nat.le_of_ble_eq_true rfl), (Nat.le_of_ble_eq_true rfl)⟩ dX10_event_30 (okX10_isNumber E (kL K) a0 a2 h2) rfl (Nat.le_of_ble_eq_true rfl) rfl rfl (fun v33 h32 eh32 => ?_)
    refine aw_if_eq (pc := 33) C 53 dX10_event_33 (by decide) (fun c34 => ?_) (fun c34 => ?_)
    · refine aw_iconst (pc := 53) (v := (-1)) C dX10_event_53 (by decide) ?_
      exact aw_ireturn (pc := 54) C hr rfl hz0 rfl dX10_event_54
    exact aw_sub (L' := [(0, rf E a0), (1, .int a1), (2, .int a2)]) [0, 1, 2] rfl (jk6 h32)
  exact aw_sub (L' := [(0, rf E a0), (1, .int a1), (2, .int a2)]) [0, 1, 2] rfl (jk6 h2)
def rmX10_happens : Room := { frames := 3, cells := 0, slots := 0, locals := 77 }
set_option maxHeartbeats 4000000 in
set_option maxRecDepth 100000 in
theorem okX10_happens (E : Ev) (l : Launch) (a0 : Nat) (a1 : Int32) (a2 : Int32) (h0 : Mem) : AMet E l yX10_happens cX10_happens 4 none rmX10_happens [rf E a0, .int a1, .int a2] h0 rvV (fX10_happens a0 a1 a2 h0) := by
  refine am_intro (plainFor_of_name (by decide +kernel)) (Nat.le_of_ble_eq_true rfl) (fun K hKl C hr hnm hz0 => ?_)
  replace C : CxOK K E RX10 cX10_happens 4 := C
  have hE : E.1 + 1 ≤ (kS K).heap.size := by omega
  unfold fX10_happens
  show Aw K E _ _ _ _ _ 0 [(0, rf E a0), (1, .int a1), (2, .int a2)] [] h0 _
  refine aw_iload_n (pc := 0) C dX10_happens_0 rfl 1 rfl ?_
  refine aw_jn (σ := Mem) 32 (fun s => [(0, rf E a0), (1, .int a1), (2, .int a2)]) (fun s => []) (fun s => s) (fun s => ?_) (fun k2 jk3 => ?_)
  · generalize s = h1
    show Aw K E _ _ _ _ _ 32 [(0, rf E a0), (1, .int a1), (2, .int a2)] [] h1 _
    refine aw_iload_n (pc := 32) C dX10_happens_32 rfl 1 rfl ?_
    refine aw_iconst (pc := 33) (v := 1) C dX10_happens_33 (by decide) ?_
    refine aw_jn (σ := Mem) 43 (fun s => [(0, rf E a0), (1, .int a1), (2, .int a2)]) (fun s => []) (fun s => s) (fun s => ?_) (fun k5 jk6 => ?_)
    · generalize s = h4
      show Aw K E _ _ _ _ _ 43 [(0, rf E a0), (1, .int a1), (2, .int a2)] [] h4 _
      refine aw_iload_n (pc := 43) C dX10_happens_43 rfl 1 rfl ?_
      refine aw_iconst (pc := 44) (v := 2) C dX10_happens_44 (by decide) ?_
      refine aw_icmp_ne (pc := 45) C 77 dX10_happens_45 (by decide) (fun c13 => ?_) (fun c13 => ?_)
      · refine aw_aload_n (pc := 48) C dX10_happens_48 rfl 0 rfl ?_
        refine aw_getI (pc := 49) C fl_X10_19 dX10_happens_49 (fun v7 ev7 => ?_)
        refine aw_iload_n (pc := 52) C dX10_happens_52 rfl 2 rfl ?_
        refine aw_iadd (pc := 53) C dX10_happens_53 ?_
        refine aw_i2l (pc := 54) C dX10_happens_54 ?_
        refine aw_ldc2 (pc := 55) (v := (-9999)) C kc_X10_112 dX10_happens_55 ?_
        refine aw_ldc2 (pc := 58) (v := 9999) C kc_X10_114 dX10_happens_58 ?_
        refine aw_callSI (pc := 61) (R := rmX10_happens) (As := [.long ((v7 + a2).toInt64), .long (-9999), .long 9999]) (rest := []) (st := [.long 9999, .long (-9999), .long ((v7 + a2).toInt64)]) (c' := 0) (s' := 0) C hE cal_X10_in ml_X10_96 rfl ⟨(Nat.le_of_ble_eq_true rfl), (Nat.le_of_ble_eq_true rfl)⟩ ⟨(Nat.le_of_ble_eq_true rfl), (Nat.le_of_ble_eq_true rfl)⟩ dX10_happens_61 (okX10_in E (kL K) ((v7 + a2).toInt64) (-9999) 9999 h4) rfl (Nat.le_of_ble_eq_true rfl) rfl rfl (fun v9 h8 eh8 => ?_)
        refine aw_if_eq (pc := 64) C 77 dX10_happens_64 (by decide) (fun c12 => ?_) (fun c12 => ?_)
        · exact aw_return (pc := 77) C hr hz0 rfl dX10_happens_77
        refine aw_aload_n (pc := 67) C dX10_happens_67 rfl 0 rfl ?_
        refine aw_dup (pc := 68) C rfl dX10_happens_68 ?_
        refine aw_getI (pc := 69) C fl_X10_19 dX10_happens_69 (fun v10 ev10 => ?_)
        refine aw_iload_n (pc := 72) C dX10_happens_72 rfl 2 rfl ?_
        refine aw_iadd (pc := 73) C dX10_happens_73 ?_
        refine aw_putI (pc := 74) C fw_X10_19 rfl rfl dX10_happens_74 (fun h11 eh11 => ?_)
        exact aw_return (pc := 77) C hr hz0 rfl dX10_happens_77
      exact aw_return (pc := 77) C hr hz0 rfl dX10_happens_77
    refine aw_icmp_ne (pc := 34) C 43 dX10_happens_34 (by decide) (fun c16 => ?_) (fun c16 => ?_)
    · refine aw_aload_n (pc := 37) C dX10_happens_37 rfl 0 rfl ?_
      refine aw_iload_n (pc := 38) C dX10_happens_38 rfl 2 rfl ?_
      refine aw_callVI (pc := 39) (R := rmX10_happens) (c := 10) (As := [.int a2]) (rest := []) (st := [.int a2, rf E a0]) (c' := 0) (s' := 0) C hE rfl (by decide) cal_X10_moves ml_X10_136 rfl ⟨(Nat.le_of_ble_eq_true rfl), (Nat.le_of_ble_eq_true rfl)⟩ ⟨(Nat.le_of_ble_eq_true rfl), (Nat.le_of_ble_eq_true rfl)⟩ dX10_happens_39 (okX10_moves E (kL K) a0 a2 h1) rfl (Nat.le_of_ble_eq_true rfl) rfl rfl (fun v15 h14 eh14 => ?_)
      refine aw_istore_n (pc := 42) (L' := [(3, .int v15), (0, rf E a0), (1, .int a1), (2, .int a2)]) C dX10_happens_42 rfl (by decide) rfl ?_
      exact aw_sub (L' := [(0, rf E a0), (1, .int a1), (2, .int a2)]) [1, 2, 3] rfl (jk6 h14)
    exact aw_sub (L' := [(0, rf E a0), (1, .int a1), (2, .int a2)]) [0, 1, 2] rfl (jk6 h1)
  refine aw_if_ne (pc := 1) C 32 dX10_happens_1 (by decide) (fun c26 => ?_) (fun c26 => ?_)
  · refine aw_aload_n (pc := 4) C dX10_happens_4 rfl 0 rfl ?_
    refine aw_iload_n (pc := 5) C dX10_happens_5 rfl 2 rfl ?_
    refine aw_callVI (pc := 6) (R := rmX10_happens) (c := 10) (As := [.int a2]) (rest := []) (st := [.int a2, rf E a0]) (c' := 0) (s' := 0) C hE rfl (by decide) cal_X10_isNumber ml_X10_104 rfl ⟨(Nat.le_of_ble_eq_true rfl), (Nat.le_of_ble_eq_true rfl)⟩ ⟨(Nat.le_of_ble_eq_true rfl), (Nat.le_of_ble_eq_true rfl)⟩ dX10_happens_6 (okX10_isNumber E (kL K) a0 a2 h0) rfl (Nat.le_of_ble_eq_true rfl) rfl rfl (fun v18 h17 eh17 => ?_)
    refine aw_if_eq (pc := 9) C 32 dX10_happens_9 (by decide) (fun c25 => ?_) (fun c25 => ?_)
    · exact aw_sub (L' := [(0, rf E a0), (1, .int a1), (2, .int a2)]) [0, 1, 2] rfl (jk3 h17)
    refine aw_aload_n (pc := 12) C dX10_happens_12 rfl 0 rfl ?_
    refine aw_getR (pc := 13) C fl_X10_15 dX10_happens_13 (fun v19 ev19 => ?_)
    refine aw_iload_n (pc := 16) C dX10_happens_16 rfl 2 rfl ?_
    refine aw_ldc2 (pc := 17) (v := 99) C kc_X10_110 dX10_happens_17 ?_
    refine aw_aload_n (pc := 20) C dX10_happens_20 rfl 0 rfl ?_
    refine aw_getR (pc := 21) C fl_X10_15 dX10_happens_21 (fun v20 ev20 => ?_)
    refine aw_iload_n (pc := 24) C dX10_happens_24 rfl 2 rfl ?_
    refine aw_laload (pc := 25) C dX10_happens_25 (fun v21 ev21 => ?_)
    refine aw_lconst (pc := 26) (v := 1) C dX10_happens_26 (by decide) ?_
    refine aw_ladd (pc := 27) C dX10_happens_27 ?_
    refine aw_callSJ (pc := 28) (R := rmX10_happens) (As := [.long 99, .long (v21 + 1)]) (rest := [.int a2, rf E v19]) (st := [.long (v21 + 1), .long 99, .int a2, rf E v19]) (c' := 0) (s' := 0) C hE cal_J9_min_f86c9 ml_X10_286 rfl ⟨(Nat.le_of_ble_eq_true rfl), (Nat.le_of_ble_eq_true rfl)⟩ ⟨(Nat.le_of_ble_eq_true rfl), (Nat.le_of_ble_eq_true rfl)⟩ dX10_happens_28 (okJ9_min_f86c9 E (kL K) 99 (v21 + 1) h17) rfl (Nat.le_of_ble_eq_true rfl) rfl rfl (fun v23 h22 eh22 => ?_)
    refine aw_lastore (pc := 31) C dX10_happens_31 (fun h24 eh24 => ?_)
    exact aw_sub (L' := [(0, rf E a0), (1, .int a1), (2, .int a2)]) [0, 1, 2] rfl (jk3 h24)
  exact aw_sub (L' := [(0, rf E a0), (1, .int a1), (2, .int a2)]) [0, 1, 2] rfl (jk3 h0)
def rmX10_after : Room := { frames := 5, cells := 0, slots := 0, locals := 127 }
set_option maxHeartbeats 4000000 in
set_option maxRecDepth 100000 in
theorem okX10_after (E : Ev) (l : Launch) (a0 : Nat) (a1 : Int32) (h0 : Mem) : AMet E l yX10_after cX10_after 6 (some (.int)) rmX10_after [rf E a0, .int a1] h0 rvI (fX10_after a0 a1 h0) := by
  refine am_intro (plainFor_of_name (by decide +kernel)) (Nat.le_of_ble_eq_true rfl) (fun K hKl C hr hnm hz0 => ?_)
  replace C : CxOK K E RX10 cX10_after 6 := C
  have hE : E.1 + 1 ≤ (kS K).heap.size := by omega
  unfold fX10_after
  show Aw K E _ _ _ _ _ 0 [(0, rf E a0), (1, .int a1)] [] h0 _
  refine aw_iload_n (pc := 0) C dX10_after_0 rfl 1 rfl ?_
  refine aw_i2l (pc := 1) C dX10_after_1 ?_
  refine aw_lconst (pc := 2) (v := 0) C dX10_after_2 (by decide) ?_
  refine aw_ldc2 (pc := 3) (v := 2) C kc_X10_100 dX10_after_3 ?_
  refine aw_callSI (pc := 6) (R := rmX10_after) (As := [.long a1.toInt64, .long 0, .long 2]) (rest := []) (st := [.long 2, .long 0, .long a1.toInt64]) (c' := 0) (s' := 0) C hE cal_X10_in ml_X10_96 rfl ⟨(Nat.le_of_ble_eq_true rfl), (Nat.le_of_ble_eq_true rfl)⟩ ⟨(Nat.le_of_ble_eq_true rfl), (Nat.le_of_ble_eq_true rfl)⟩ dX10_after_6 (okX10_in E (kL K) a1.toInt64 0 2 h0) rfl (Nat.le_of_ble_eq_true rfl) rfl rfl (fun v2 h1 eh1 => ?_)
  refine aw_if_ne (pc := 9) C 14 dX10_after_9 (by decide) (fun c46 => ?_) (fun c46 => ?_)
  · refine aw_iconst (pc := 12) (v := (-1)) C dX10_after_12 (by decide) ?_
    exact aw_ireturn (pc := 13) C hr rfl hz0 rfl dX10_after_13
  refine aw_aload_n (pc := 14) C dX10_after_14 rfl 0 rfl ?_
  refine aw_getI (pc := 15) C fl_X10_19 dX10_after_15 (fun v3 ev3 => ?_)
  refine aw_istore_n (pc := 18) (L' := [(2, .int v3), (0, rf E a0), (1, .int a1)]) C dX10_after_18 rfl (by decide) rfl ?_
  refine aw_iconst (pc := 19) (v := 0) C dX10_after_19 (by decide) ?_
  refine aw_istore_n (pc := 20) (L' := [(3, .int 0), (2, .int v3), (0, rf E a0), (1, .int a1)]) C dX10_after_20 rfl (by decide) rfl ?_
  refine aw_sub (L' := [(0, rf E a0), (1, .int a1), (2, .int v3), (3, .int 0)]) [2, 3, 1, 0] rfl ?_
  refine aw_loop (pc := 21) (σ := Int32 × Mem) (fun s => [(0, rf E a0), (1, .int a1), (2, .int v3), (3, .int s.1)]) (fun s => s.2) _ (fun k6 ih7 s => ?_) _ _
  obtain ⟨v4, h5⟩ := s
  show Aw K E _ _ _ _ _ 21 [(0, rf E a0), (1, .int a1), (2, .int v3), (3, .int v4)] [] h5 _
  refine aw_iload_n (pc := 21) C dX10_after_21 rfl 3 rfl ?_
  refine aw_iconst (pc := 22) (v := 5) C dX10_after_22 (by decide) ?_
  refine aw_icmp_ge (pc := 23) C 44 dX10_after_23 (by decide) (fun c45 => ?_) (fun c45 => ?_)
  · refine aw_iconst (pc := 44) (v := 0) C dX10_after_44 (by decide) ?_
    refine aw_istore_n (pc := 45) (L' := [(3, .int 0), (0, rf E a0), (1, .int a1), (2, .int v3)]) C dX10_after_45 rfl (by decide) rfl ?_
    refine aw_sub (L' := [(0, rf E a0), (1, .int a1), (2, .int v3), (3, .int 0)]) [1, 2, 3, 0] rfl ?_
    refine aw_loop (pc := 46) (σ := Int32 × Mem) (fun s => [(0, rf E a0), (1, .int a1), (2, .int v3), (3, .int s.1)]) (fun s => s.2) _ (fun k15 ih16 s => ?_) _ _
    obtain ⟨v13, h14⟩ := s
    show Aw K E _ _ _ _ _ 46 [(0, rf E a0), (1, .int a1), (2, .int v3), (3, .int v13)] [] h14 _
    refine aw_iload_n (pc := 46) C dX10_after_46 rfl 3 rfl ?_
    refine aw_aload_n (pc := 47) C dX10_after_47 rfl 0 rfl ?_
    refine aw_getI (pc := 48) C fl_X10_283 dX10_after_48 (fun v17 ev17 => ?_)
    refine aw_icmp_ge (pc := 51) C 82 dX10_after_51 (by decide) (fun c44 => ?_) (fun c44 => ?_)
    · refine aw_aload_n (pc := 82) C dX10_after_82 rfl 0 rfl ?_
      refine aw_iload_n (pc := 83) C dX10_after_83 rfl 1 rfl ?_
      refine aw_jn (σ := Int32) 92 (fun s => [(0, rf E a0), (1, .int a1), (2, .int v3)]) (fun s => [.int s, rf E a0]) (fun s => h14) (fun s => ?_) (fun k25 jk26 => ?_)
      · generalize s = v24
        show Aw K E _ _ _ _ _ 92 [(0, rf E a0), (1, .int a1), (2, .int v3)] [.int v24, rf E a0] h14 _
        refine aw_callVI (pc := 92) (R := rmX10_after) (c := 10) (As := [.int v24]) (rest := []) (st := [.int v24, rf E a0]) (c' := 0) (s' := 0) C hE rfl (by decide) cal_X10_told ml_X10_294 rfl ⟨(Nat.le_of_ble_eq_true rfl), (Nat.le_of_ble_eq_true rfl)⟩ ⟨(Nat.le_of_ble_eq_true rfl), (Nat.le_of_ble_eq_true rfl)⟩ dX10_after_92 (okX10_told E (kL K) a0 v24 h14) rfl (Nat.le_of_ble_eq_true rfl) rfl rfl (fun v28 h27 eh27 => ?_)
        refine aw_istore_n (pc := 95) (L' := [(3, .int v28), (0, rf E a0), (1, .int a1), (2, .int v3)]) C dX10_after_95 rfl (by decide) rfl ?_
        refine aw_aload_n (pc := 96) C dX10_after_96 rfl 1 rfl ?_
        refine aw_callVI (pc := 97) (R := rmX10_after) (c := 10) (As := []) (rest := []) (st := [rf E a0]) (c' := 0) (s' := 0) C hE rfl (by decide) cal_X10_firstBar ml_X10_182 rfl ⟨(Nat.le_of_ble_eq_true rfl), (Nat.le_of_ble_eq_true rfl)⟩ ⟨(Nat.le_of_ble_eq_true rfl), (Nat.le_of_ble_eq_true rfl)⟩ dX10_after_97 (okX10_firstBar E (kL K) a0 h27) rfl (Nat.le_of_ble_eq_true rfl) rfl rfl (fun v30 h29 eh29 => ?_)
        refine aw_istore (pc := 100) (L' := [(4, .int v30), (3, .int v28), (0, rf E a0), (1, .int a1), (2, .int v3)]) C dX10_after_100 (by decide) rfl ?_
        refine aw_aload_n (pc := 102) C dX10_after_102 rfl 2 rfl ?_
        refine aw_iload_n (pc := 103) C dX10_after_103 rfl 4 rfl ?_
        refine aw_putI (pc := 104) C fw_X10_19 rfl rfl dX10_after_104 (fun h31 eh31 => ?_)
        refine aw_iconst (pc := 107) (v := 0) C dX10_after_107 (by decide) ?_
        refine aw_istore (pc := 108) (L' := [(5, .int 0), (4, .int v30), (3, .int v28), (0, rf E a0), (1, .int a1), (2, .int v3)]) C dX10_after_108 (by decide) rfl ?_
        refine aw_sub (L' := [(0, rf E a0), (1, .int a1), (3, .int v28), (4, .int v30), (5, .int 0)]) [3, 4, 2, 1, 0] rfl ?_
        refine aw_loop (pc := 110) (σ := Int32 × Mem) (fun s => [(0, rf E a0), (1, .int a1), (3, .int v28), (4, .int v30), (5, .int s.1)]) (fun s => s.2) _ (fun k34 ih35 s => ?_) _ _
        obtain ⟨v32, h33⟩ := s
        show Aw K E _ _ _ _ _ 110 [(0, rf E a0), (1, .int a1), (3, .int v28), (4, .int v30), (5, .int v32)] [] h33 _
        refine aw_iload (pc := 110) C dX10_after_110 4 rfl ?_
        refine aw_iconst (pc := 112) (v := 5) C dX10_after_112 (by decide) ?_
        refine aw_icmp_ge (pc := 113) C 136 dX10_after_113 (by decide) (fun c42 => ?_) (fun c42 => ?_)
        · refine aw_iload_n (pc := 136) C dX10_after_136 rfl 1 rfl ?_
          refine aw_iconst (pc := 137) (v := 1) C dX10_after_137 (by decide) ?_
          refine aw_icmp_ne (pc := 138) C 146 dX10_after_138 (by decide) (fun c41 => ?_) (fun c41 => ?_)
          · refine aw_iload (pc := 141) C dX10_after_141 3 rfl ?_
            refine aw_goto (pc := 143) C 147 dX10_after_143 (by decide) ?_
            exact aw_ireturn (pc := 147) C hr rfl hz0 rfl dX10_after_147
          refine aw_iload_n (pc := 146) C dX10_after_146 rfl 2 rfl ?_
          exact aw_ireturn (pc := 147) C hr rfl hz0 rfl dX10_after_147
        refine aw_aload_n (pc := 116) C dX10_after_116 rfl 0 rfl ?_
        refine aw_getR (pc := 117) C fl_X10_15 dX10_after_117 (fun v36 ev36 => ?_)
        refine aw_iload (pc := 120) C dX10_after_120 4 rfl ?_
        refine aw_aload_n (pc := 122) C dX10_after_122 rfl 0 rfl ?_
        refine aw_getR (pc := 123) C fl_X10_78 dX10_after_123 (fun v37 ev37 => ?_)
        refine aw_iload (pc := 126) C dX10_after_126 4 rfl ?_
        refine aw_laload (pc := 128) C dX10_after_128 (fun v38 ev38 => ?_)
        refine aw_lastore (pc := 129) C dX10_after_129 (fun h39 eh39 => ?_)
        refine aw_iincN (pc := 130) (L1 := [(0, rf E a0), (1, .int a1), (3, .int v28), (4, .int v30)]) (k := 1) C dX10_after_130 4 rfl (by decide) (by decide) rfl (fun v40 ev40 => ?_)
        refine aw_goto (pc := 133) C 110 dX10_after_133 (by decide) ?_
        exact aw_sub (L' := [(0, rf E a0), (1, .int a1), (3, .int v28), (4, .int v30), (5, .int v40)]) [1, 2, 3, 4, 0] rfl (ih35 (v40, h39))
      refine aw_if_ne (pc := 84) C 91 dX10_after_84 (by decide) (fun c43 => ?_) (fun c43 => ?_)
      · refine aw_iconst (pc := 87) (v := 3) C dX10_after_87 (by decide) ?_
        refine aw_goto (pc := 88) C 92 dX10_after_88 (by decide) ?_
        exact aw_sub (L' := [(0, rf E a0), (1, .int a1), (2, .int v3)]) [0, 1, 2] rfl (jk26 3)
      refine aw_iconst (pc := 91) (v := 4) C dX10_after_91 (by decide) ?_
      exact aw_sub (L' := [(0, rf E a0), (1, .int a1), (2, .int v3)]) [0, 1, 2] rfl (jk26 4)
    refine aw_aload_n (pc := 54) C dX10_after_54 rfl 0 rfl ?_
    refine aw_aload_n (pc := 55) C dX10_after_55 rfl 0 rfl ?_
    refine aw_getR (pc := 56) C fl_X10_29 dX10_after_56 (fun v18 ev18 => ?_)
    refine aw_iconst (pc := 59) (v := 2) C dX10_after_59 (by decide) ?_
    refine aw_iload_n (pc := 60) C dX10_after_60 rfl 3 rfl ?_
    refine aw_imul (pc := 61) C dX10_after_61 ?_
    refine aw_iaload (pc := 62) C dX10_after_62 (fun v19 ev19 => ?_)
    refine aw_aload_n (pc := 63) C dX10_after_63 rfl 0 rfl ?_
    refine aw_getR (pc := 64) C fl_X10_29 dX10_after_64 (fun v20 ev20 => ?_)
    refine aw_iconst (pc := 67) (v := 2) C dX10_after_67 (by decide) ?_
    refine aw_iload_n (pc := 68) C dX10_after_68 rfl 3 rfl ?_
    refine aw_imul (pc := 69) C dX10_after_69 ?_
    refine aw_iconst (pc := 70) (v := 1) C dX10_after_70 (by decide) ?_
    refine aw_iadd (pc := 71) C dX10_after_71 ?_
    refine aw_iaload (pc := 72) C dX10_after_72 (fun v21 ev21 => ?_)
    refine aw_callVV (pc := 73) (R := rmX10_after) (c := 10) (As := [.int v19, .int v21]) (rest := []) (st := [.int v21, .int v19, rf E a0]) (c' := 0) (s' := 0) C hE rfl (by decide) cal_X10_happens ml_X10_291 rfl ⟨(Nat.le_of_ble_eq_true rfl), (Nat.le_of_ble_eq_true rfl)⟩ ⟨(Nat.le_of_ble_eq_true rfl), (Nat.le_of_ble_eq_true rfl)⟩ dX10_after_73 (okX10_happens E (kL K) a0 v19 v21 h14) rfl (Nat.le_of_ble_eq_true rfl) rfl rfl (fun _u h22 eh22 => ?_)
    refine aw_iincN (pc := 76) (L1 := [(0, rf E a0), (1, .int a1), (2, .int v3)]) (k := 1) C dX10_after_76 3 rfl (by decide) (by decide) rfl (fun v23 ev23 => ?_)
    refine aw_goto (pc := 79) C 46 dX10_after_79 (by decide) ?_
    exact aw_sub (L' := [(0, rf E a0), (1, .int a1), (2, .int v3), (3, .int v23)]) [1, 2, 3, 0] rfl (ih16 (v23, h22))
  refine aw_aload_n (pc := 26) C dX10_after_26 rfl 0 rfl ?_
  refine aw_getR (pc := 27) C fl_X10_78 dX10_after_27 (fun v8 ev8 => ?_)
  refine aw_iload_n (pc := 30) C dX10_after_30 rfl 3 rfl ?_
  refine aw_aload_n (pc := 31) C dX10_after_31 rfl 0 rfl ?_
  refine aw_getR (pc := 32) C fl_X10_15 dX10_after_32 (fun v9 ev9 => ?_)
  refine aw_iload_n (pc := 35) C dX10_after_35 rfl 3 rfl ?_
  refine aw_laload (pc := 36) C dX10_after_36 (fun v10 ev10 => ?_)
  refine aw_lastore (pc := 37) C dX10_after_37 (fun h11 eh11 => ?_)
  refine aw_iincN (pc := 38) (L1 := [(0, rf E a0), (1, .int a1), (2, .int v3)]) (k := 1) C dX10_after_38 3 rfl (by decide) (by decide) rfl (fun v12 ev12 => ?_)
  refine aw_goto (pc := 41) C 21 dX10_after_41 (by decide) ?_
  exact aw_sub (L' := [(0, rf E a0), (1, .int a1), (2, .int v3), (3, .int v12)]) [1, 2, 3, 0] rfl (ih7 (v12, h11))
def rmX10_book : Room := { frames := 2, cells := 0, slots := 0, locals := 46 }
set_option maxHeartbeats 4000000 in
set_option maxRecDepth 100000 in
theorem okX10_book (E : Ev) (l : Launch) (a0 : Nat) (a1 : Int32) (a2 : Int32) (h0 : Mem) : AMet E l yX10_book cX10_book 3 (some (.int)) rmX10_book [rf E a0, .int a1, .int a2] h0 rvI (fX10_book a0 a1 a2 h0) := by
  refine am_intro (plainFor_of_name (by decide +kernel)) (Nat.le_of_ble_eq_true rfl) (fun K hKl C hr hnm hz0 => ?_)
  replace C : CxOK K E RX10 cX10_book 3 := C
  have hE : E.1 + 1 ≤ (kS K).heap.size := by omega
  unfold fX10_book
  show Aw K E _ _ _ _ _ 0 [(0, rf E a0), (1, .int a1), (2, .int a2)] [] h0 _
  refine aw_iload_n (pc := 0) C dX10_book_0 rfl 1 rfl ?_
  refine aw_iconst (pc := 1) (v := (-1)) C dX10_book_1 (by decide) ?_
  refine aw_icmp_ne (pc := 2) C 12 dX10_book_2 (by decide) (fun c19 => ?_) (fun c19 => ?_)
  · refine aw_aload_n (pc := 5) C dX10_book_5 rfl 0 rfl ?_
    refine aw_iconst (pc := 6) (v := 0) C dX10_book_6 (by decide) ?_
    refine aw_putI (pc := 7) C fw_X10_296 rfl rfl dX10_book_7 (fun h1 eh1 => ?_)
    refine aw_iconst (pc := 10) (v := 0) C dX10_book_10 (by decide) ?_
    exact aw_ireturn (pc := 11) C hr rfl hz0 rfl dX10_book_11
  refine aw_aload_n (pc := 12) C dX10_book_12 rfl 0 rfl ?_
  refine aw_iload_n (pc := 13) C dX10_book_13 rfl 1 rfl ?_
  refine aw_callVI (pc := 14) (R := rmX10_book) (c := 10) (As := [.int a1]) (rest := []) (st := [.int a1, rf E a0]) (c' := 0) (s' := 0) C hE rfl (by decide) cal_X10_isNumber ml_X10_104 rfl ⟨(Nat.le_of_ble_eq_true rfl), (Nat.le_of_ble_eq_true rfl)⟩ ⟨(Nat.le_of_ble_eq_true rfl), (Nat.le_of_ble_eq_true rfl)⟩ dX10_book_14 (okX10_isNumber E (kL K) a0 a1 h0) rfl (Nat.le_of_ble_eq_true rfl) rfl rfl (fun v3 h2 eh2 => ?_)
  refine aw_if_ne (pc := 17) C 22 dX10_book_17 (by decide) (fun c18 => ?_) (fun c18 => ?_)
  · refine aw_iconst (pc := 20) (v := (-1)) C dX10_book_20 (by decide) ?_
    exact aw_ireturn (pc := 21) C hr rfl hz0 rfl dX10_book_21
  refine aw_iload_n (pc := 22) C dX10_book_22 rfl 2 rfl ?_
  refine aw_i2l (pc := 23) C dX10_book_23 ?_
  refine aw_ldc2 (pc := 24) (v := (-99)) C kc_X10_108 dX10_book_24 ?_
  refine aw_ldc2 (pc := 27) (v := 99) C kc_X10_110 dX10_book_27 ?_
  refine aw_callSI (pc := 30) (R := rmX10_book) (As := [.long a2.toInt64, .long (-99), .long 99]) (rest := []) (st := [.long 99, .long (-99), .long a2.toInt64]) (c' := 0) (s' := 0) C hE cal_X10_in ml_X10_96 rfl ⟨(Nat.le_of_ble_eq_true rfl), (Nat.le_of_ble_eq_true rfl)⟩ ⟨(Nat.le_of_ble_eq_true rfl), (Nat.le_of_ble_eq_true rfl)⟩ dX10_book_30 (okX10_in E (kL K) a2.toInt64 (-99) 99 h2) rfl (Nat.le_of_ble_eq_true rfl) rfl rfl (fun v5 h4 eh4 => ?_)
  refine aw_if_ne (pc := 33) C 39 dX10_book_33 (by decide) (fun c17 => ?_) (fun c17 => ?_)
  · refine aw_bipush (pc := 36) (v := (-2)) C dX10_book_36 (by decide) ?_
    exact aw_ireturn (pc := 38) C hr rfl hz0 rfl dX10_book_38
  refine aw_aload_n (pc := 39) C dX10_book_39 rfl 0 rfl ?_
  refine aw_getI (pc := 40) C fl_X10_296 dX10_book_40 (fun v6 ev6 => ?_)
  refine aw_bipush (pc := 43) (v := 8) C dX10_book_43 (by decide) ?_
  refine aw_icmp_ne (pc := 45) C 51 dX10_book_45 (by decide) (fun c16 => ?_) (fun c16 => ?_)
  · refine aw_bipush (pc := 48) (v := (-4)) C dX10_book_48 (by decide) ?_
    exact aw_ireturn (pc := 50) C hr rfl hz0 rfl dX10_book_50
  refine aw_aload_n (pc := 51) C dX10_book_51 rfl 0 rfl ?_
  refine aw_getR (pc := 52) C fl_X10_32 dX10_book_52 (fun v7 ev7 => ?_)
  refine aw_iconst (pc := 55) (v := 2) C dX10_book_55 (by decide) ?_
  refine aw_aload_n (pc := 56) C dX10_book_56 rfl 0 rfl ?_
  refine aw_getI (pc := 57) C fl_X10_296 dX10_book_57 (fun v8 ev8 => ?_)
  refine aw_imul (pc := 60) C dX10_book_60 ?_
  refine aw_iload_n (pc := 61) C dX10_book_61 rfl 1 rfl ?_
  refine aw_iastore (pc := 62) C dX10_book_62 (fun h9 eh9 => ?_)
  refine aw_aload_n (pc := 63) C dX10_book_63 rfl 0 rfl ?_
  refine aw_getR (pc := 64) C fl_X10_32 dX10_book_64 (fun v10 ev10 => ?_)
  refine aw_iconst (pc := 67) (v := 2) C dX10_book_67 (by decide) ?_
  refine aw_aload_n (pc := 68) C dX10_book_68 rfl 0 rfl ?_
  refine aw_getI (pc := 69) C fl_X10_296 dX10_book_69 (fun v11 ev11 => ?_)
  refine aw_imul (pc := 72) C dX10_book_72 ?_
  refine aw_iconst (pc := 73) (v := 1) C dX10_book_73 (by decide) ?_
  refine aw_iadd (pc := 74) C dX10_book_74 ?_
  refine aw_iload_n (pc := 75) C dX10_book_75 rfl 2 rfl ?_
  refine aw_iastore (pc := 76) C dX10_book_76 (fun h12 eh12 => ?_)
  refine aw_aload_n (pc := 77) C dX10_book_77 rfl 0 rfl ?_
  refine aw_dup (pc := 78) C rfl dX10_book_78 ?_
  refine aw_getI (pc := 79) C fl_X10_296 dX10_book_79 (fun v13 ev13 => ?_)
  refine aw_iconst (pc := 82) (v := 1) C dX10_book_82 (by decide) ?_
  refine aw_iadd (pc := 83) C dX10_book_83 ?_
  refine aw_putI (pc := 84) C fw_X10_296 rfl rfl dX10_book_84 (fun h14 eh14 => ?_)
  refine aw_aload_n (pc := 87) C dX10_book_87 rfl 0 rfl ?_
  refine aw_getI (pc := 88) C fl_X10_296 dX10_book_88 (fun v15 ev15 => ?_)
  exact aw_ireturn (pc := 91) C hr rfl hz0 rfl dX10_book_91
def rmX10_looked : Room := { frames := 2, cells := 0, slots := 0, locals := 46 }
set_option maxHeartbeats 4000000 in
set_option maxRecDepth 100000 in
theorem okX10_looked (E : Ev) (l : Launch) (a0 : Nat) (h0 : Mem) : AMet E l yX10_looked cX10_looked 2 (some (.int)) rmX10_looked [rf E a0] h0 rvI (fX10_looked a0 h0) := by
  refine am_intro (plainFor_of_name (by decide +kernel)) (Nat.le_of_ble_eq_true rfl) (fun K hKl C hr hnm hz0 => ?_)
  replace C : CxOK K E RX10 cX10_looked 2 := C
  have hE : E.1 + 1 ≤ (kS K).heap.size := by omega
  unfold fX10_looked
  show Aw K E _ _ _ _ _ 0 [(0, rf E a0)] [] h0 _
  refine aw_iconst (pc := 0) (v := 0) C dX10_looked_0 (by decide) ?_
  refine aw_istore_n (pc := 1) (L' := [(1, .int 0), (0, rf E a0)]) C dX10_looked_1 rfl (by decide) rfl ?_
  refine aw_sub (L' := [(0, rf E a0), (1, .int 0)]) [1, 0] rfl ?_
  refine aw_loop (pc := 2) (σ := Int32 × Mem) (fun s => [(0, rf E a0), (1, .int s.1)]) (fun s => s.2) _ (fun k3 ih4 s => ?_) _ _
  obtain ⟨v1, h2⟩ := s
  show Aw K E _ _ _ _ _ 2 [(0, rf E a0), (1, .int v1)] [] h2 _
  refine aw_iload_n (pc := 2) C dX10_looked_2 rfl 1 rfl ?_
  refine aw_aload_n (pc := 3) C dX10_looked_3 rfl 0 rfl ?_
  refine aw_getI (pc := 4) C fl_X10_296 dX10_looked_4 (fun v5 ev5 => ?_)
  refine aw_icmp_ge (pc := 7) C 61 dX10_looked_7 (by decide) (fun c19 => ?_) (fun c19 => ?_)
  · refine aw_bipush (pc := 61) (v := (-5)) C dX10_looked_61 (by decide) ?_
    exact aw_ireturn (pc := 63) C hr rfl hz0 rfl dX10_looked_63
  refine aw_aload_n (pc := 10) C dX10_looked_10 rfl 0 rfl ?_
  refine aw_aload_n (pc := 11) C dX10_looked_11 rfl 0 rfl ?_
  refine aw_getR (pc := 12) C fl_X10_32 dX10_looked_12 (fun v6 ev6 => ?_)
  refine aw_iconst (pc := 15) (v := 2) C dX10_looked_15 (by decide) ?_
  refine aw_iload_n (pc := 16) C dX10_looked_16 rfl 1 rfl ?_
  refine aw_imul (pc := 17) C dX10_looked_17 ?_
  refine aw_iaload (pc := 18) C dX10_looked_18 (fun v7 ev7 => ?_)
  refine aw_callVI (pc := 19) (R := rmX10_looked) (c := 10) (As := [.int v7]) (rest := []) (st := [.int v7, rf E a0]) (c' := 0) (s' := 0) C hE rfl (by decide) cal_X10_isNumber ml_X10_104 rfl ⟨(Nat.le_of_ble_eq_true rfl), (Nat.le_of_ble_eq_true rfl)⟩ ⟨(Nat.le_of_ble_eq_true rfl), (Nat.le_of_ble_eq_true rfl)⟩ dX10_looked_19 (okX10_isNumber E (kL K) a0 v7 h2) rfl (Nat.le_of_ble_eq_true rfl) rfl rfl (fun v9 h8 eh8 => ?_)
  refine aw_if_eq (pc := 22) C 53 dX10_looked_22 (by decide) (fun c18 => ?_) (fun c18 => ?_)
  · refine aw_iload_n (pc := 53) C dX10_looked_53 rfl 1 rfl ?_
    exact aw_ireturn (pc := 54) C hr rfl hz0 rfl dX10_looked_54
  refine aw_aload_n (pc := 25) C dX10_looked_25 rfl 0 rfl ?_
  refine aw_getR (pc := 26) C fl_X10_15 dX10_looked_26 (fun v10 ev10 => ?_)
  refine aw_aload_n (pc := 29) C dX10_looked_29 rfl 0 rfl ?_
  refine aw_getR (pc := 30) C fl_X10_32 dX10_looked_30 (fun v11 ev11 => ?_)
  refine aw_iconst (pc := 33) (v := 2) C dX10_looked_33 (by decide) ?_
  refine aw_iload_n (pc := 34) C dX10_looked_34 rfl 1 rfl ?_
  refine aw_imul (pc := 35) C dX10_looked_35 ?_
  refine aw_iaload (pc := 36) C dX10_looked_36 (fun v12 ev12 => ?_)
  refine aw_laload (pc := 37) C dX10_looked_37 (fun v13 ev13 => ?_)
  refine aw_aload_n (pc := 38) C dX10_looked_38 rfl 0 rfl ?_
  refine aw_getR (pc := 39) C fl_X10_32 dX10_looked_39 (fun v14 ev14 => ?_)
  refine aw_iconst (pc := 42) (v := 2) C dX10_looked_42 (by decide) ?_
  refine aw_iload_n (pc := 43) C dX10_looked_43 rfl 1 rfl ?_
  refine aw_imul (pc := 44) C dX10_looked_44 ?_
  refine aw_iconst (pc := 45) (v := 1) C dX10_looked_45 (by decide) ?_
  refine aw_iadd (pc := 46) C dX10_looked_46 ?_
  refine aw_iaload (pc := 47) C dX10_looked_47 (fun v15 ev15 => ?_)
  refine aw_i2l (pc := 48) C dX10_looked_48 ?_
  refine aw_lcmp (pc := 49) C dX10_looked_49 ?_
  refine aw_if_eq (pc := 50) C 55 dX10_looked_50 (by decide) (fun c17 => ?_) (fun c17 => ?_)
  · refine aw_iincN (pc := 55) (L1 := [(0, rf E a0)]) (k := 1) C dX10_looked_55 1 rfl (by decide) (by decide) rfl (fun v16 ev16 => ?_)
    refine aw_goto (pc := 58) C 2 dX10_looked_58 (by decide) ?_
    exact aw_sub (L' := [(0, rf E a0), (1, .int v16)]) [1, 0] rfl (ih4 (v16, h8))
  refine aw_iload_n (pc := 53) C dX10_looked_53 rfl 1 rfl ?_
  exact aw_ireturn (pc := 54) C hr rfl hz0 rfl dX10_looked_54
def rmX10_isTape : Room := { frames := 1, cells := 0, slots := 0, locals := 25 }
set_option maxHeartbeats 4000000 in
set_option maxRecDepth 100000 in
theorem okX10_isTape (E : Ev) (l : Launch) (a0 : Int32) (h0 : Mem) : AMet E l yX10_isTape cX10_isTape 1 (some (.boolean)) rmX10_isTape [.int a0] h0 rvI (fX10_isTape a0 h0) := by
  refine am_intro (plainFor_of_name (by decide +kernel)) (Nat.le_of_ble_eq_true rfl) (fun K hKl C hr hnm hz0 => ?_)
  replace C : CxOK K E RX10 cX10_isTape 1 := C
  have hE : E.1 + 1 ≤ (kS K).heap.size := by omega
  unfold fX10_isTape
  show Aw K E _ _ _ _ _ 0 [(0, .int a0)] [] h0 _
  refine aw_iload_n (pc := 0) C dX10_isTape_0 rfl 0 rfl ?_
  refine aw_i2l (pc := 1) C dX10_isTape_1 ?_
  refine aw_lconst (pc := 2) (v := 0) C dX10_isTape_2 (by decide) ?_
  refine aw_ldc2 (pc := 3) (v := 5) C kc_X10_180 dX10_isTape_3 ?_
  refine aw_callSI (pc := 6) (R := rmX10_isTape) (As := [.long a0.toInt64, .long 0, .long 5]) (rest := []) (st := [.long 5, .long 0, .long a0.toInt64]) (c' := 0) (s' := 0) C hE cal_X10_in ml_X10_96 rfl ⟨(Nat.le_of_ble_eq_true rfl), (Nat.le_of_ble_eq_true rfl)⟩ ⟨(Nat.le_of_ble_eq_true rfl), (Nat.le_of_ble_eq_true rfl)⟩ dX10_isTape_6 (okX10_in E (kL K) a0.toInt64 0 5 h0) rfl (Nat.le_of_ble_eq_true rfl) rfl rfl (fun v2 h1 eh1 => ?_)
  exact aw_zreturn (pc := 9) C hr hz0 rfl dX10_isTape_9
def rmX10_judge : Room := { frames := 2, cells := 0, slots := 0, locals := 45 }
set_option maxHeartbeats 4000000 in
set_option maxRecDepth 100000 in
theorem okX10_judge (E : Ev) (l : Launch) (a0 : Nat) (a1 : Int32) (a2 : Int32) (h0 : Mem) : AMet E l yX10_judge cX10_judge 4 (some (.int)) rmX10_judge [rf E a0, .int a1, .int a2] h0 rvI (fX10_judge a0 a1 a2 h0) := by
  refine am_intro (plainFor_of_name (by decide +kernel)) (Nat.le_of_ble_eq_true rfl) (fun K hKl C hr hnm hz0 => ?_)
  replace C : CxOK K E RX10 cX10_judge 4 := C
  have hE : E.1 + 1 ≤ (kS K).heap.size := by omega
  unfold fX10_judge
  show Aw K E _ _ _ _ _ 0 [(0, rf E a0), (1, .int a1), (2, .int a2)] [] h0 _
  refine aw_iload_n (pc := 0) C dX10_judge_0 rfl 1 rfl ?_
  refine aw_callSI (pc := 1) (R := rmX10_judge) (As := [.int a1]) (rest := []) (st := [.int a1]) (c' := 0) (s' := 0) C hE cal_X10_isTape ml_X10_299 rfl ⟨(Nat.le_of_ble_eq_true rfl), (Nat.le_of_ble_eq_true rfl)⟩ ⟨(Nat.le_of_ble_eq_true rfl), (Nat.le_of_ble_eq_true rfl)⟩ dX10_judge_1 (okX10_isTape E (kL K) a1 h0) rfl (Nat.le_of_ble_eq_true rfl) rfl rfl (fun v2 h1 eh1 => ?_)
  refine aw_if_ne (pc := 4) C 9 dX10_judge_4 (by decide) (fun c24 => ?_) (fun c24 => ?_)
  · refine aw_iconst (pc := 7) (v := (-1)) C dX10_judge_7 (by decide) ?_
    exact aw_ireturn (pc := 8) C hr rfl hz0 rfl dX10_judge_8
  refine aw_aload_n (pc := 9) C dX10_judge_9 rfl 0 rfl ?_
  refine aw_getR (pc := 10) C fl_X10_81 dX10_judge_10 (fun v3 ev3 => ?_)
  refine aw_iload_n (pc := 13) C dX10_judge_13 rfl 1 rfl ?_
  refine aw_iaload (pc := 14) C dX10_judge_14 (fun v4 ev4 => ?_)
  refine aw_if_ge (pc := 15) C 21 dX10_judge_15 (by decide) (fun c23 => ?_) (fun c23 => ?_)
  · refine aw_aload_n (pc := 21) C dX10_judge_21 rfl 0 rfl ?_
    refine aw_getR (pc := 22) C fl_X10_81 dX10_judge_22 (fun v5 ev5 => ?_)
    refine aw_iload_n (pc := 25) C dX10_judge_25 rfl 1 rfl ?_
    refine aw_iaload (pc := 26) C dX10_judge_26 (fun v6 ev6 => ?_)
    refine aw_iconst (pc := 27) (v := 1) C dX10_judge_27 (by decide) ?_
    refine aw_icmp_eq (pc := 28) C 34 dX10_judge_28 (by decide) (fun c22 => ?_) (fun c22 => ?_)
    · refine aw_iconst (pc := 34) (v := 0) C dX10_judge_34 (by decide) ?_
      refine aw_istore_n (pc := 35) (L' := [(3, .int 0), (0, rf E a0), (1, .int a1), (2, .int a2)]) C dX10_judge_35 rfl (by decide) rfl ?_
      refine aw_sub (L' := [(0, rf E a0), (1, .int a1), (2, .int a2), (3, .int 0)]) [1, 2, 3, 0] rfl ?_
      refine aw_loop (pc := 36) (σ := Int32) (fun s => [(0, rf E a0), (1, .int a1), (2, .int a2), (3, .int s)]) (fun s => h1) _ (fun k8 ih9 s => ?_) _ _
      generalize s = v7
      show Aw K E _ _ _ _ _ 36 [(0, rf E a0), (1, .int a1), (2, .int a2), (3, .int v7)] [] h1 _
      refine aw_iload_n (pc := 36) C dX10_judge_36 rfl 3 rfl ?_
      refine aw_aload_n (pc := 37) C dX10_judge_37 rfl 0 rfl ?_
      refine aw_getI (pc := 38) C fl_X10_9 dX10_judge_38 (fun v10 ev10 => ?_)
      refine aw_icmp_gt (pc := 41) C 100 dX10_judge_41 (by decide) (fun c21 => ?_) (fun c21 => ?_)
      · refine aw_bipush (pc := 100) (v := (-5)) C dX10_judge_100 (by decide) ?_
        exact aw_ireturn (pc := 102) C hr rfl hz0 rfl dX10_judge_102
      refine aw_iload_n (pc := 44) C dX10_judge_44 rfl 2 rfl ?_
      refine aw_if_lt (pc := 45) C 64 dX10_judge_45 (by decide) (fun c20 => ?_) (fun c20 => ?_)
      · refine aw_bipush (pc := 64) (v := 100) C dX10_judge_64 (by decide) ?_
        refine aw_iload_n (pc := 66) C dX10_judge_66 rfl 3 rfl ?_
        refine aw_iadd (pc := 67) C dX10_judge_67 ?_
        exact aw_ireturn (pc := 68) C hr rfl hz0 rfl dX10_judge_68
      refine aw_iload_n (pc := 48) C dX10_judge_48 rfl 2 rfl ?_
      refine aw_i2l (pc := 49) C dX10_judge_49 ?_
      refine aw_iload_n (pc := 50) C dX10_judge_50 rfl 3 rfl ?_
      refine aw_i2l (pc := 51) C dX10_judge_51 ?_
      refine aw_ladd (pc := 52) C dX10_judge_52 ?_
      refine aw_aload_n (pc := 53) C dX10_judge_53 rfl 0 rfl ?_
      refine aw_getR (pc := 54) C fl_X10_84 dX10_judge_54 (fun v11 ev11 => ?_)
      refine aw_iload_n (pc := 57) C dX10_judge_57 rfl 1 rfl ?_
      refine aw_iaload (pc := 58) C dX10_judge_58 (fun v12 ev12 => ?_)
      refine aw_i2l (pc := 59) C dX10_judge_59 ?_
      refine aw_lcmp (pc := 60) C dX10_judge_60 ?_
      refine aw_if_lt (pc := 61) C 69 dX10_judge_61 (by decide) (fun c19 => ?_) (fun c19 => ?_)
      · refine aw_aload_n (pc := 69) C dX10_judge_69 rfl 0 rfl ?_
        refine aw_getR (pc := 70) C fl_X10_87 dX10_judge_70 (fun v13 ev13 => ?_)
        refine aw_bipush (pc := 73) (v := 60) C dX10_judge_73 (by decide) ?_
        refine aw_iload_n (pc := 75) C dX10_judge_75 rfl 1 rfl ?_
        refine aw_imul (pc := 76) C dX10_judge_76 ?_
        refine aw_iload_n (pc := 77) C dX10_judge_77 rfl 2 rfl ?_
        refine aw_iadd (pc := 78) C dX10_judge_78 ?_
        refine aw_iload_n (pc := 79) C dX10_judge_79 rfl 3 rfl ?_
        refine aw_iadd (pc := 80) C dX10_judge_80 ?_
        refine aw_laload (pc := 81) C dX10_judge_81 (fun v14 ev14 => ?_)
        refine aw_aload_n (pc := 82) C dX10_judge_82 rfl 0 rfl ?_
        refine aw_getR (pc := 83) C fl_X10_15 dX10_judge_83 (fun v15 ev15 => ?_)
        refine aw_iload_n (pc := 86) C dX10_judge_86 rfl 3 rfl ?_
        refine aw_laload (pc := 87) C dX10_judge_87 (fun v16 ev16 => ?_)
        refine aw_lcmp (pc := 88) C dX10_judge_88 ?_
        refine aw_if_eq (pc := 89) C 94 dX10_judge_89 (by decide) (fun c18 => ?_) (fun c18 => ?_)
        · refine aw_iincN (pc := 94) (L1 := [(0, rf E a0), (1, .int a1), (2, .int a2)]) (k := 1) C dX10_judge_94 3 rfl (by decide) (by decide) rfl (fun v17 ev17 => ?_)
          refine aw_goto (pc := 97) C 36 dX10_judge_97 (by decide) ?_
          exact aw_sub (L' := [(0, rf E a0), (1, .int a1), (2, .int a2), (3, .int v17)]) [1, 2, 3, 0] rfl (ih9 v17)
        refine aw_iload_n (pc := 92) C dX10_judge_92 rfl 3 rfl ?_
        exact aw_ireturn (pc := 93) C hr rfl hz0 rfl dX10_judge_93
      refine aw_bipush (pc := 64) (v := 100) C dX10_judge_64 (by decide) ?_
      refine aw_iload_n (pc := 66) C dX10_judge_66 rfl 3 rfl ?_
      refine aw_iadd (pc := 67) C dX10_judge_67 ?_
      exact aw_ireturn (pc := 68) C hr rfl hz0 rfl dX10_judge_68
    refine aw_bipush (pc := 31) (v := (-12)) C dX10_judge_31 (by decide) ?_
    exact aw_ireturn (pc := 33) C hr rfl hz0 rfl dX10_judge_33
  refine aw_bipush (pc := 18) (v := 100) C dX10_judge_18 (by decide) ?_
  exact aw_ireturn (pc := 20) C hr rfl hz0 rfl dX10_judge_20
def rmX10_laysRow : Room := { frames := 0, cells := 0, slots := 0, locals := 0 }
set_option maxHeartbeats 4000000 in
set_option maxRecDepth 100000 in
theorem okX10_laysRow (E : Ev) (l : Launch) (a0 : Nat) (a1 : Int32) (a2 : Nat) (a3 : Int32) (h0 : Mem) : AMet E l yX10_laysRow cX10_laysRow 5 none rmX10_laysRow [rf E a0, .int a1, rf E a2, .int a3] h0 rvV (fX10_laysRow a0 a1 a2 a3 h0) := by
  refine am_intro (plainFor_of_name (by decide +kernel)) (Nat.le_of_ble_eq_true rfl) (fun K hKl C hr hnm hz0 => ?_)
  replace C : CxOK K E RX10 cX10_laysRow 5 := C
  have hE : E.1 + 1 ≤ (kS K).heap.size := by omega
  unfold fX10_laysRow
  show Aw K E _ _ _ _ _ 0 [(0, rf E a0), (1, .int a1), (2, rf E a2), (3, .int a3)] [] h0 _
  refine aw_iconst (pc := 0) (v := 0) C dX10_laysRow_0 (by decide) ?_
  refine aw_istore (pc := 1) (L' := [(4, .int 0), (0, rf E a0), (1, .int a1), (2, rf E a2), (3, .int a3)]) C dX10_laysRow_1 (by decide) rfl ?_
  refine aw_sub (L' := [(0, rf E a0), (1, .int a1), (2, rf E a2), (3, .int a3), (4, .int 0)]) [1, 2, 3, 4, 0] rfl ?_
  refine aw_loop (pc := 3) (σ := Int32 × Mem) (fun s => [(0, rf E a0), (1, .int a1), (2, rf E a2), (3, .int a3), (4, .int s.1)]) (fun s => s.2) _ (fun k3 ih4 s => ?_) _ _
  obtain ⟨v1, h2⟩ := s
  show Aw K E _ _ _ _ _ 3 [(0, rf E a0), (1, .int a1), (2, rf E a2), (3, .int a3), (4, .int v1)] [] h2 _
  refine aw_iload (pc := 3) C dX10_laysRow_3 4 rfl ?_
  refine aw_aload_n (pc := 5) C dX10_laysRow_5 rfl 2 rfl ?_
  refine aw_arraylength (pc := 6) C dX10_laysRow_6 (fun v5 ev5 => ?_)
  refine aw_icmp_ge (pc := 7) C 58 dX10_laysRow_7 (by decide) (fun c19 => ?_) (fun c19 => ?_)
  · exact aw_return (pc := 58) C hr hz0 rfl dX10_laysRow_58
  refine aw_aload_n (pc := 10) C dX10_laysRow_10 rfl 0 rfl ?_
  refine aw_getR (pc := 11) C fl_X10_93 dX10_laysRow_11 (fun v6 ev6 => ?_)
  refine aw_iload_n (pc := 14) C dX10_laysRow_14 rfl 3 rfl ?_
  refine aw_iload (pc := 15) C dX10_laysRow_15 4 rfl ?_
  refine aw_iadd (pc := 17) C dX10_laysRow_17 ?_
  refine aw_iload_n (pc := 18) C dX10_laysRow_18 rfl 1 rfl ?_
  refine aw_jn (σ := Int32) 38 (fun s => [(0, rf E a0), (1, .int a1), (2, rf E a2), (3, .int a3), (4, .int v1)]) (fun s => [.int s, .int (a3 + v1), rf E v6]) (fun s => h2) (fun s => ?_) (fun k8 jk9 => ?_)
  · generalize s = v7
    show Aw K E _ _ _ _ _ 38 [(0, rf E a0), (1, .int a1), (2, rf E a2), (3, .int a3), (4, .int v1)] [.int v7, .int (a3 + v1), rf E v6] h2 _
    refine aw_iastore (pc := 38) C dX10_laysRow_38 (fun h10 eh10 => ?_)
    refine aw_aload_n (pc := 39) C dX10_laysRow_39 rfl 2 rfl ?_
    refine aw_iload (pc := 40) C dX10_laysRow_40 4 rfl ?_
    refine aw_aload_n (pc := 42) C dX10_laysRow_42 rfl 0 rfl ?_
    refine aw_getR (pc := 43) C fl_X10_93 dX10_laysRow_43 (fun v11 ev11 => ?_)
    refine aw_iload_n (pc := 46) C dX10_laysRow_46 rfl 3 rfl ?_
    refine aw_iload (pc := 47) C dX10_laysRow_47 4 rfl ?_
    refine aw_iadd (pc := 49) C dX10_laysRow_49 ?_
    refine aw_iaload (pc := 50) C dX10_laysRow_50 (fun v12 ev12 => ?_)
    refine aw_iastore (pc := 51) C dX10_laysRow_51 (fun h13 eh13 => ?_)
    refine aw_iincN (pc := 52) (L1 := [(0, rf E a0), (1, .int a1), (2, rf E a2), (3, .int a3)]) (k := 1) C dX10_laysRow_52 4 rfl (by decide) (by decide) rfl (fun v14 ev14 => ?_)
    refine aw_goto (pc := 55) C 3 dX10_laysRow_55 (by decide) ?_
    exact aw_sub (L' := [(0, rf E a0), (1, .int a1), (2, rf E a2), (3, .int a3), (4, .int v14)]) [1, 2, 3, 4, 0] rfl (ih4 (v14, h13))
  refine aw_if_eq (pc := 19) C 34 dX10_laysRow_19 (by decide) (fun c18 => ?_) (fun c18 => ?_)
  · refine aw_aload_n (pc := 34) C dX10_laysRow_34 rfl 2 rfl ?_
    refine aw_iload (pc := 35) C dX10_laysRow_35 4 rfl ?_
    refine aw_iaload (pc := 37) C dX10_laysRow_37 (fun v17 ev17 => ?_)
    exact aw_sub (L' := [(0, rf E a0), (1, .int a1), (2, rf E a2), (3, .int a3), (4, .int v1)]) [0, 1, 2, 3, 4] rfl (jk9 v17)
  refine aw_aload_n (pc := 22) C dX10_laysRow_22 rfl 0 rfl ?_
  refine aw_getR (pc := 23) C fl_X10_93 dX10_laysRow_23 (fun v15 ev15 => ?_)
  refine aw_iload_n (pc := 26) C dX10_laysRow_26 rfl 3 rfl ?_
  refine aw_iload (pc := 27) C dX10_laysRow_27 4 rfl ?_
  refine aw_iadd (pc := 29) C dX10_laysRow_29 ?_
  refine aw_iaload (pc := 30) C dX10_laysRow_30 (fun v16 ev16 => ?_)
  refine aw_goto (pc := 31) C 38 dX10_laysRow_31 (by decide) ?_
  exact aw_sub (L' := [(0, rf E a0), (1, .int a1), (2, rf E a2), (3, .int a3), (4, .int v1)]) [0, 1, 2, 3, 4] rfl (jk9 v16)
def rmX10_lays : Room := { frames := 1, cells := 0, slots := 0, locals := 24 }
set_option maxHeartbeats 4000000 in
set_option maxRecDepth 100000 in
theorem okX10_lays (E : Ev) (l : Launch) (a0 : Nat) (a1 : Int32) (h0 : Mem) : AMet E l yX10_lays cX10_lays 4 none rmX10_lays [rf E a0, .int a1] h0 rvV (fX10_lays a0 a1 h0) := by
  refine am_intro (plainFor_of_name (by decide +kernel)) (Nat.le_of_ble_eq_true rfl) (fun K hKl C hr hnm hz0 => ?_)
  replace C : CxOK K E RX10 cX10_lays 4 := C
  have hE : E.1 + 1 ≤ (kS K).heap.size := by omega
  unfold fX10_lays
  show Aw K E _ _ _ _ _ 0 [(0, rf E a0), (1, .int a1)] [] h0 _
  refine aw_iconst (pc := 0) (v := 0) C dX10_lays_0 (by decide) ?_
  refine aw_istore_n (pc := 1) (L' := [(2, .int 0), (0, rf E a0), (1, .int a1)]) C dX10_lays_1 rfl (by decide) rfl ?_
  refine aw_aload_n (pc := 2) C dX10_lays_2 rfl 1 rfl ?_
  refine aw_getR (pc := 3) C fl_X10_93 dX10_lays_3 (fun v1 ev1 => ?_)
  refine aw_iload_n (pc := 6) C dX10_lays_6 rfl 0 rfl ?_
  refine aw_iload_n (pc := 7) C dX10_lays_7 rfl 2 rfl ?_
  refine aw_jn (σ := Int32) 24 (fun s => [(0, rf E a0), (1, .int a1), (2, .int 0)]) (fun s => [.int s, .int 0, rf E v1]) (fun s => h0) (fun s => ?_) (fun k3 jk4 => ?_)
  · generalize s = v2
    show Aw K E _ _ _ _ _ 24 [(0, rf E a0), (1, .int a1), (2, .int 0)] [.int v2, .int 0, rf E v1] h0 _
    refine aw_iastore (pc := 24) C dX10_lays_24 (fun h5 eh5 => ?_)
    refine aw_aload_n (pc := 25) C dX10_lays_25 rfl 0 rfl ?_
    refine aw_aload_n (pc := 26) C dX10_lays_26 rfl 0 rfl ?_
    refine aw_getR (pc := 27) C fl_X10_93 dX10_lays_27 (fun v6 ev6 => ?_)
    refine aw_iload_n (pc := 30) C dX10_lays_30 rfl 2 rfl ?_
    refine aw_iaload (pc := 31) C dX10_lays_31 (fun v7 ev7 => ?_)
    refine aw_putI (pc := 32) C fw_X10_9 rfl rfl dX10_lays_32 (fun h8 eh8 => ?_)
    refine aw_iinc (pc := 35) (v := 1) (L' := [(2, .int 1), (0, rf E a0), (1, .int a1)]) C dX10_lays_35 2 rfl (by decide) (by decide) rfl ?_
    refine aw_aload_n (pc := 38) C dX10_lays_38 rfl 1 rfl ?_
    refine aw_getR (pc := 39) C fl_X10_93 dX10_lays_39 (fun v9 ev9 => ?_)
    refine aw_iload_n (pc := 42) C dX10_lays_42 rfl 0 rfl ?_
    refine aw_iload_n (pc := 43) C dX10_lays_43 rfl 2 rfl ?_
    refine aw_jn (σ := Int32) 60 (fun s => [(0, rf E a0), (1, .int a1), (2, .int 1)]) (fun s => [.int s, .int 1, rf E v9]) (fun s => h8) (fun s => ?_) (fun k11 jk12 => ?_)
    · generalize s = v10
      show Aw K E _ _ _ _ _ 60 [(0, rf E a0), (1, .int a1), (2, .int 1)] [.int v10, .int 1, rf E v9] h8 _
      refine aw_iastore (pc := 60) C dX10_lays_60 (fun h13 eh13 => ?_)
      refine aw_aload_n (pc := 61) C dX10_lays_61 rfl 0 rfl ?_
      refine aw_aload_n (pc := 62) C dX10_lays_62 rfl 0 rfl ?_
      refine aw_getR (pc := 63) C fl_X10_93 dX10_lays_63 (fun v14 ev14 => ?_)
      refine aw_iload_n (pc := 66) C dX10_lays_66 rfl 2 rfl ?_
      refine aw_iaload (pc := 67) C dX10_lays_67 (fun v15 ev15 => ?_)
      refine aw_putI (pc := 68) C fw_X10_19 rfl rfl dX10_lays_68 (fun h16 eh16 => ?_)
      refine aw_iinc (pc := 71) (v := 2) (L' := [(2, .int 2), (0, rf E a0), (1, .int a1)]) C dX10_lays_71 2 rfl (by decide) (by decide) rfl ?_
      refine aw_aload_n (pc := 74) C dX10_lays_74 rfl 1 rfl ?_
      refine aw_getR (pc := 75) C fl_X10_93 dX10_lays_75 (fun v17 ev17 => ?_)
      refine aw_iload_n (pc := 78) C dX10_lays_78 rfl 0 rfl ?_
      refine aw_iload_n (pc := 79) C dX10_lays_79 rfl 2 rfl ?_
      refine aw_jn (σ := Int32) 96 (fun s => [(0, rf E a0), (1, .int a1), (2, .int 2)]) (fun s => [.int s, .int 2, rf E v17]) (fun s => h16) (fun s => ?_) (fun k19 jk20 => ?_)
      · generalize s = v18
        show Aw K E _ _ _ _ _ 96 [(0, rf E a0), (1, .int a1), (2, .int 2)] [.int v18, .int 2, rf E v17] h16 _
        refine aw_iastore (pc := 96) C dX10_lays_96 (fun h21 eh21 => ?_)
        refine aw_aload_n (pc := 97) C dX10_lays_97 rfl 0 rfl ?_
        refine aw_aload_n (pc := 98) C dX10_lays_98 rfl 0 rfl ?_
        refine aw_getR (pc := 99) C fl_X10_93 dX10_lays_99 (fun v22 ev22 => ?_)
        refine aw_iload_n (pc := 102) C dX10_lays_102 rfl 2 rfl ?_
        refine aw_iaload (pc := 103) C dX10_lays_103 (fun v23 ev23 => ?_)
        refine aw_putI (pc := 104) C fw_X10_22 rfl rfl dX10_lays_104 (fun h24 eh24 => ?_)
        refine aw_iinc (pc := 107) (v := 3) (L' := [(2, .int 3), (0, rf E a0), (1, .int a1)]) C dX10_lays_107 2 rfl (by decide) (by decide) rfl ?_
        refine aw_aload_n (pc := 110) C dX10_lays_110 rfl 1 rfl ?_
        refine aw_getR (pc := 111) C fl_X10_93 dX10_lays_111 (fun v25 ev25 => ?_)
        refine aw_iload_n (pc := 114) C dX10_lays_114 rfl 0 rfl ?_
        refine aw_iload_n (pc := 115) C dX10_lays_115 rfl 2 rfl ?_
        refine aw_jn (σ := Int32) 132 (fun s => [(0, rf E a0), (1, .int a1), (2, .int 3)]) (fun s => [.int s, .int 3, rf E v25]) (fun s => h24) (fun s => ?_) (fun k27 jk28 => ?_)
        · generalize s = v26
          show Aw K E _ _ _ _ _ 132 [(0, rf E a0), (1, .int a1), (2, .int 3)] [.int v26, .int 3, rf E v25] h24 _
          refine aw_iastore (pc := 132) C dX10_lays_132 (fun h29 eh29 => ?_)
          refine aw_aload_n (pc := 133) C dX10_lays_133 rfl 0 rfl ?_
          refine aw_aload_n (pc := 134) C dX10_lays_134 rfl 0 rfl ?_
          refine aw_getR (pc := 135) C fl_X10_93 dX10_lays_135 (fun v30 ev30 => ?_)
          refine aw_iload_n (pc := 138) C dX10_lays_138 rfl 2 rfl ?_
          refine aw_iaload (pc := 139) C dX10_lays_139 (fun v31 ev31 => ?_)
          refine aw_putI (pc := 140) C fw_X10_276 rfl rfl dX10_lays_140 (fun h32 eh32 => ?_)
          refine aw_iinc (pc := 143) (v := 4) (L' := [(2, .int 4), (0, rf E a0), (1, .int a1)]) C dX10_lays_143 2 rfl (by decide) (by decide) rfl ?_
          refine aw_aload_n (pc := 146) C dX10_lays_146 rfl 1 rfl ?_
          refine aw_getR (pc := 147) C fl_X10_93 dX10_lays_147 (fun v33 ev33 => ?_)
          refine aw_iload_n (pc := 150) C dX10_lays_150 rfl 0 rfl ?_
          refine aw_iload_n (pc := 151) C dX10_lays_151 rfl 2 rfl ?_
          refine aw_jn (σ := Int32) 168 (fun s => [(0, rf E a0), (1, .int a1), (2, .int 4)]) (fun s => [.int s, .int 4, rf E v33]) (fun s => h32) (fun s => ?_) (fun k35 jk36 => ?_)
          · generalize s = v34
            show Aw K E _ _ _ _ _ 168 [(0, rf E a0), (1, .int a1), (2, .int 4)] [.int v34, .int 4, rf E v33] h32 _
            refine aw_iastore (pc := 168) C dX10_lays_168 (fun h37 eh37 => ?_)
            refine aw_aload_n (pc := 169) C dX10_lays_169 rfl 0 rfl ?_
            refine aw_aload_n (pc := 170) C dX10_lays_170 rfl 0 rfl ?_
            refine aw_getR (pc := 171) C fl_X10_93 dX10_lays_171 (fun v38 ev38 => ?_)
            refine aw_iload_n (pc := 174) C dX10_lays_174 rfl 2 rfl ?_
            refine aw_iaload (pc := 175) C dX10_lays_175 (fun v39 ev39 => ?_)
            refine aw_putI (pc := 176) C fw_X10_283 rfl rfl dX10_lays_176 (fun h40 eh40 => ?_)
            refine aw_iinc (pc := 179) (v := 5) (L' := [(2, .int 5), (0, rf E a0), (1, .int a1)]) C dX10_lays_179 2 rfl (by decide) (by decide) rfl ?_
            refine aw_aload_n (pc := 182) C dX10_lays_182 rfl 1 rfl ?_
            refine aw_getR (pc := 183) C fl_X10_93 dX10_lays_183 (fun v41 ev41 => ?_)
            refine aw_iload_n (pc := 186) C dX10_lays_186 rfl 0 rfl ?_
            refine aw_iload_n (pc := 187) C dX10_lays_187 rfl 2 rfl ?_
            refine aw_jn (σ := Int32) 204 (fun s => [(0, rf E a0), (1, .int a1), (2, .int 5)]) (fun s => [.int s, .int 5, rf E v41]) (fun s => h40) (fun s => ?_) (fun k43 jk44 => ?_)
            · generalize s = v42
              show Aw K E _ _ _ _ _ 204 [(0, rf E a0), (1, .int a1), (2, .int 5)] [.int v42, .int 5, rf E v41] h40 _
              refine aw_iastore (pc := 204) C dX10_lays_204 (fun h45 eh45 => ?_)
              refine aw_aload_n (pc := 205) C dX10_lays_205 rfl 0 rfl ?_
              refine aw_aload_n (pc := 206) C dX10_lays_206 rfl 0 rfl ?_
              refine aw_getR (pc := 207) C fl_X10_93 dX10_lays_207 (fun v46 ev46 => ?_)
              refine aw_iload_n (pc := 210) C dX10_lays_210 rfl 2 rfl ?_
              refine aw_iaload (pc := 211) C dX10_lays_211 (fun v47 ev47 => ?_)
              refine aw_putI (pc := 212) C fw_X10_296 rfl rfl dX10_lays_212 (fun h48 eh48 => ?_)
              refine aw_iinc (pc := 215) (v := 6) (L' := [(2, .int 6), (0, rf E a0), (1, .int a1)]) C dX10_lays_215 2 rfl (by decide) (by decide) rfl ?_
              refine aw_aload_n (pc := 218) C dX10_lays_218 rfl 1 rfl ?_
              refine aw_iload_n (pc := 219) C dX10_lays_219 rfl 2 rfl ?_
              refine aw_aload_n (pc := 220) C dX10_lays_220 rfl 1 rfl ?_
              refine aw_getR (pc := 221) C fl_X10_25 dX10_lays_221 (fun v49 ev49 => ?_)
              refine aw_iload_n (pc := 224) C dX10_lays_224 rfl 0 rfl ?_
              refine aw_callVV (pc := 225) (R := rmX10_lays) (c := 10) (As := [.int a1, rf E v49, .int 6]) (rest := []) (st := [.int 6, rf E v49, .int a1, rf E a0]) (c' := 0) (s' := 0) C hE rfl (by decide) cal_X10_laysRow ml_X10_302 rfl ⟨(Nat.le_of_ble_eq_true rfl), (Nat.le_of_ble_eq_true rfl)⟩ ⟨(Nat.le_of_ble_eq_true rfl), (Nat.le_of_ble_eq_true rfl)⟩ dX10_lays_225 (okX10_laysRow E (kL K) a0 a1 v49 6 h48) rfl (Nat.le_of_ble_eq_true rfl) rfl rfl (fun _u h50 eh50 => ?_)
              refine aw_aload_n (pc := 228) C dX10_lays_228 rfl 1 rfl ?_
              refine aw_iload_n (pc := 229) C dX10_lays_229 rfl 2 rfl ?_
              refine aw_aload_n (pc := 230) C dX10_lays_230 rfl 1 rfl ?_
              refine aw_getR (pc := 231) C fl_X10_29 dX10_lays_231 (fun v51 ev51 => ?_)
              refine aw_iload_n (pc := 234) C dX10_lays_234 rfl 0 rfl ?_
              refine aw_aload_n (pc := 235) C dX10_lays_235 rfl 1 rfl ?_
              refine aw_getR (pc := 236) C fl_X10_25 dX10_lays_236 (fun v52 ev52 => ?_)
              refine aw_arraylength (pc := 239) C dX10_lays_239 (fun v53 ev53 => ?_)
              refine aw_iadd (pc := 240) C dX10_lays_240 ?_
              refine aw_callVV (pc := 241) (R := rmX10_lays) (c := 10) (As := [.int a1, rf E v51, .int (6 + v53)]) (rest := []) (st := [.int (6 + v53), rf E v51, .int a1, rf E a0]) (c' := 0) (s' := 0) C hE rfl (by decide) cal_X10_laysRow ml_X10_302 rfl ⟨(Nat.le_of_ble_eq_true rfl), (Nat.le_of_ble_eq_true rfl)⟩ ⟨(Nat.le_of_ble_eq_true rfl), (Nat.le_of_ble_eq_true rfl)⟩ dX10_lays_241 (okX10_laysRow E (kL K) a0 a1 v51 (6 + v53) h50) rfl (Nat.le_of_ble_eq_true rfl) rfl rfl (fun _u h54 eh54 => ?_)
              refine aw_aload_n (pc := 244) C dX10_lays_244 rfl 1 rfl ?_
              refine aw_iload_n (pc := 245) C dX10_lays_245 rfl 2 rfl ?_
              refine aw_aload_n (pc := 246) C dX10_lays_246 rfl 1 rfl ?_
              refine aw_getR (pc := 247) C fl_X10_32 dX10_lays_247 (fun v55 ev55 => ?_)
              refine aw_iload_n (pc := 250) C dX10_lays_250 rfl 0 rfl ?_
              refine aw_aload_n (pc := 251) C dX10_lays_251 rfl 1 rfl ?_
              refine aw_getR (pc := 252) C fl_X10_25 dX10_lays_252 (fun v56 ev56 => ?_)
              refine aw_arraylength (pc := 255) C dX10_lays_255 (fun v57 ev57 => ?_)
              refine aw_iadd (pc := 256) C dX10_lays_256 ?_
              refine aw_aload_n (pc := 257) C dX10_lays_257 rfl 1 rfl ?_
              refine aw_getR (pc := 258) C fl_X10_29 dX10_lays_258 (fun v58 ev58 => ?_)
              refine aw_arraylength (pc := 261) C dX10_lays_261 (fun v59 ev59 => ?_)
              refine aw_iadd (pc := 262) C dX10_lays_262 ?_
              refine aw_callVV (pc := 263) (R := rmX10_lays) (c := 10) (As := [.int a1, rf E v55, .int ((6 + v57) + v59)]) (rest := []) (st := [.int ((6 + v57) + v59), rf E v55, .int a1, rf E a0]) (c' := 0) (s' := 0) C hE rfl (by decide) cal_X10_laysRow ml_X10_302 rfl ⟨(Nat.le_of_ble_eq_true rfl), (Nat.le_of_ble_eq_true rfl)⟩ ⟨(Nat.le_of_ble_eq_true rfl), (Nat.le_of_ble_eq_true rfl)⟩ dX10_lays_263 (okX10_laysRow E (kL K) a0 a1 v55 ((6 + v57) + v59) h54) rfl (Nat.le_of_ble_eq_true rfl) rfl rfl (fun _u h60 eh60 => ?_)
              refine aw_iconst (pc := 266) (v := 0) C dX10_lays_266 (by decide) ?_
              refine aw_istore_n (pc := 267) (L' := [(3, .int 0), (2, .int 6), (0, rf E a0), (1, .int a1)]) C dX10_lays_267 rfl (by decide) rfl ?_
              refine aw_sub (L' := [(0, rf E a0), (1, .int a1), (3, .int 0)]) [2, 3, 0] rfl ?_
              refine aw_loop (pc := 268) (σ := Int32 × Mem) (fun s => [(0, rf E a0), (1, .int a1), (3, .int s.1)]) (fun s => s.2) _ (fun k63 ih64 s => ?_) _ _
              obtain ⟨v61, h62⟩ := s
              show Aw K E _ _ _ _ _ 268 [(0, rf E a0), (1, .int a1), (3, .int v61)] [] h62 _
              refine aw_iload_n (pc := 268) C dX10_lays_268 rfl 2 rfl ?_
              refine aw_iconst (pc := 269) (v := 5) C dX10_lays_269 (by decide) ?_
              refine aw_icmp_ge (pc := 270) C 316 dX10_lays_270 (by decide) (fun c80 => ?_) (fun c80 => ?_)
              · exact aw_return (pc := 316) C hr hz0 rfl dX10_lays_316
              refine aw_aload_n (pc := 273) C dX10_lays_273 rfl 0 rfl ?_
              refine aw_getR (pc := 274) C fl_X10_90 dX10_lays_274 (fun v65 ev65 => ?_)
              refine aw_iload_n (pc := 277) C dX10_lays_277 rfl 2 rfl ?_
              refine aw_iload_n (pc := 278) C dX10_lays_278 rfl 1 rfl ?_
              refine aw_jn (σ := Int64) 297 (fun s => [(0, rf E a0), (1, .int a1), (3, .int v61)]) (fun s => [.long s, .int v61, rf E v65]) (fun s => h62) (fun s => ?_) (fun k67 jk68 => ?_)
              · generalize s = v66
                show Aw K E _ _ _ _ _ 297 [(0, rf E a0), (1, .int a1), (3, .int v61)] [.long v66, .int v61, rf E v65] h62 _
                refine aw_lastore (pc := 297) C dX10_lays_297 (fun h69 eh69 => ?_)
                refine aw_aload_n (pc := 298) C dX10_lays_298 rfl 0 rfl ?_
                refine aw_getR (pc := 299) C fl_X10_15 dX10_lays_299 (fun v70 ev70 => ?_)
                refine aw_iload_n (pc := 302) C dX10_lays_302 rfl 2 rfl ?_
                refine aw_aload_n (pc := 303) C dX10_lays_303 rfl 0 rfl ?_
                refine aw_getR (pc := 304) C fl_X10_90 dX10_lays_304 (fun v71 ev71 => ?_)
                refine aw_iload_n (pc := 307) C dX10_lays_307 rfl 2 rfl ?_
                refine aw_laload (pc := 308) C dX10_lays_308 (fun v72 ev72 => ?_)
                refine aw_lastore (pc := 309) C dX10_lays_309 (fun h73 eh73 => ?_)
                refine aw_iincN (pc := 310) (L1 := [(0, rf E a0), (1, .int a1)]) (k := 1) C dX10_lays_310 2 rfl (by decide) (by decide) rfl (fun v74 ev74 => ?_)
                refine aw_goto (pc := 313) C 268 dX10_lays_313 (by decide) ?_
                exact aw_sub (L' := [(0, rf E a0), (1, .int a1), (3, .int v74)]) [1, 2, 0] rfl (ih64 (v74, h73))
              refine aw_if_eq (pc := 279) C 291 dX10_lays_279 (by decide) (fun c79 => ?_) (fun c79 => ?_)
              · refine aw_aload_n (pc := 291) C dX10_lays_291 rfl 0 rfl ?_
                refine aw_getR (pc := 292) C fl_X10_15 dX10_lays_292 (fun v77 ev77 => ?_)
                refine aw_iload_n (pc := 295) C dX10_lays_295 rfl 2 rfl ?_
                refine aw_laload (pc := 296) C dX10_lays_296 (fun v78 ev78 => ?_)
                exact aw_sub (L' := [(0, rf E a0), (1, .int a1), (3, .int v61)]) [0, 1, 2] rfl (jk68 v78)
              refine aw_aload_n (pc := 282) C dX10_lays_282 rfl 0 rfl ?_
              refine aw_getR (pc := 283) C fl_X10_90 dX10_lays_283 (fun v75 ev75 => ?_)
              refine aw_iload_n (pc := 286) C dX10_lays_286 rfl 2 rfl ?_
              refine aw_laload (pc := 287) C dX10_lays_287 (fun v76 ev76 => ?_)
              refine aw_goto (pc := 288) C 297 dX10_lays_288 (by decide) ?_
              exact aw_sub (L' := [(0, rf E a0), (1, .int a1), (3, .int v61)]) [0, 1, 2] rfl (jk68 v76)
            refine aw_if_eq (pc := 188) C 200 dX10_lays_188 (by decide) (fun c84 => ?_) (fun c84 => ?_)
            · refine aw_aload_n (pc := 200) C dX10_lays_200 rfl 1 rfl ?_
              refine aw_getI (pc := 201) C fl_X10_296 dX10_lays_201 (fun v83 ev83 => ?_)
              exact aw_sub (L' := [(0, rf E a0), (1, .int a1), (2, .int 5)]) [1, 2, 0] rfl (jk44 v83)
            refine aw_aload_n (pc := 191) C dX10_lays_191 rfl 1 rfl ?_
            refine aw_getR (pc := 192) C fl_X10_93 dX10_lays_192 (fun v81 ev81 => ?_)
            refine aw_iload_n (pc := 195) C dX10_lays_195 rfl 0 rfl ?_
            refine aw_iaload (pc := 196) C dX10_lays_196 (fun v82 ev82 => ?_)
            refine aw_goto (pc := 197) C 204 dX10_lays_197 (by decide) ?_
            exact aw_sub (L' := [(0, rf E a0), (1, .int a1), (2, .int 5)]) [1, 2, 0] rfl (jk44 v82)
          refine aw_if_eq (pc := 152) C 164 dX10_lays_152 (by decide) (fun c88 => ?_) (fun c88 => ?_)
          · refine aw_aload_n (pc := 164) C dX10_lays_164 rfl 1 rfl ?_
            refine aw_getI (pc := 165) C fl_X10_283 dX10_lays_165 (fun v87 ev87 => ?_)
            exact aw_sub (L' := [(0, rf E a0), (1, .int a1), (2, .int 4)]) [1, 2, 0] rfl (jk36 v87)
          refine aw_aload_n (pc := 155) C dX10_lays_155 rfl 1 rfl ?_
          refine aw_getR (pc := 156) C fl_X10_93 dX10_lays_156 (fun v85 ev85 => ?_)
          refine aw_iload_n (pc := 159) C dX10_lays_159 rfl 0 rfl ?_
          refine aw_iaload (pc := 160) C dX10_lays_160 (fun v86 ev86 => ?_)
          refine aw_goto (pc := 161) C 168 dX10_lays_161 (by decide) ?_
          exact aw_sub (L' := [(0, rf E a0), (1, .int a1), (2, .int 4)]) [1, 2, 0] rfl (jk36 v86)
        refine aw_if_eq (pc := 116) C 128 dX10_lays_116 (by decide) (fun c92 => ?_) (fun c92 => ?_)
        · refine aw_aload_n (pc := 128) C dX10_lays_128 rfl 1 rfl ?_
          refine aw_getI (pc := 129) C fl_X10_276 dX10_lays_129 (fun v91 ev91 => ?_)
          exact aw_sub (L' := [(0, rf E a0), (1, .int a1), (2, .int 3)]) [1, 2, 0] rfl (jk28 v91)
        refine aw_aload_n (pc := 119) C dX10_lays_119 rfl 1 rfl ?_
        refine aw_getR (pc := 120) C fl_X10_93 dX10_lays_120 (fun v89 ev89 => ?_)
        refine aw_iload_n (pc := 123) C dX10_lays_123 rfl 0 rfl ?_
        refine aw_iaload (pc := 124) C dX10_lays_124 (fun v90 ev90 => ?_)
        refine aw_goto (pc := 125) C 132 dX10_lays_125 (by decide) ?_
        exact aw_sub (L' := [(0, rf E a0), (1, .int a1), (2, .int 3)]) [1, 2, 0] rfl (jk28 v90)
      refine aw_if_eq (pc := 80) C 92 dX10_lays_80 (by decide) (fun c96 => ?_) (fun c96 => ?_)
      · refine aw_aload_n (pc := 92) C dX10_lays_92 rfl 1 rfl ?_
        refine aw_getI (pc := 93) C fl_X10_22 dX10_lays_93 (fun v95 ev95 => ?_)
        exact aw_sub (L' := [(0, rf E a0), (1, .int a1), (2, .int 2)]) [1, 2, 0] rfl (jk20 v95)
      refine aw_aload_n (pc := 83) C dX10_lays_83 rfl 1 rfl ?_
      refine aw_getR (pc := 84) C fl_X10_93 dX10_lays_84 (fun v93 ev93 => ?_)
      refine aw_iload_n (pc := 87) C dX10_lays_87 rfl 0 rfl ?_
      refine aw_iaload (pc := 88) C dX10_lays_88 (fun v94 ev94 => ?_)
      refine aw_goto (pc := 89) C 96 dX10_lays_89 (by decide) ?_
      exact aw_sub (L' := [(0, rf E a0), (1, .int a1), (2, .int 2)]) [1, 2, 0] rfl (jk20 v94)
    refine aw_if_eq (pc := 44) C 56 dX10_lays_44 (by decide) (fun c100 => ?_) (fun c100 => ?_)
    · refine aw_aload_n (pc := 56) C dX10_lays_56 rfl 1 rfl ?_
      refine aw_getI (pc := 57) C fl_X10_19 dX10_lays_57 (fun v99 ev99 => ?_)
      exact aw_sub (L' := [(0, rf E a0), (1, .int a1), (2, .int 1)]) [1, 2, 0] rfl (jk12 v99)
    refine aw_aload_n (pc := 47) C dX10_lays_47 rfl 1 rfl ?_
    refine aw_getR (pc := 48) C fl_X10_93 dX10_lays_48 (fun v97 ev97 => ?_)
    refine aw_iload_n (pc := 51) C dX10_lays_51 rfl 0 rfl ?_
    refine aw_iaload (pc := 52) C dX10_lays_52 (fun v98 ev98 => ?_)
    refine aw_goto (pc := 53) C 60 dX10_lays_53 (by decide) ?_
    exact aw_sub (L' := [(0, rf E a0), (1, .int a1), (2, .int 1)]) [1, 2, 0] rfl (jk12 v98)
  refine aw_if_eq (pc := 8) C 20 dX10_lays_8 (by decide) (fun c104 => ?_) (fun c104 => ?_)
  · refine aw_aload_n (pc := 20) C dX10_lays_20 rfl 1 rfl ?_
    refine aw_getI (pc := 21) C fl_X10_9 dX10_lays_21 (fun v103 ev103 => ?_)
    exact aw_sub (L' := [(0, rf E a0), (1, .int a1), (2, .int 0)]) [1, 2, 0] rfl (jk4 v103)
  refine aw_aload_n (pc := 11) C dX10_lays_11 rfl 1 rfl ?_
  refine aw_getR (pc := 12) C fl_X10_93 dX10_lays_12 (fun v101 ev101 => ?_)
  refine aw_iload_n (pc := 15) C dX10_lays_15 rfl 0 rfl ?_
  refine aw_iaload (pc := 16) C dX10_lays_16 (fun v102 ev102 => ?_)
  refine aw_goto (pc := 17) C 24 dX10_lays_17 (by decide) ?_
  exact aw_sub (L' := [(0, rf E a0), (1, .int a1), (2, .int 0)]) [1, 2, 0] rfl (jk4 v102)
