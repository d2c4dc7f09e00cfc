def rmX10_tellsAnswers : Room := { frames := 2, cells := 0, slots := 0, locals := 52 }
set_option maxHeartbeats 4000000 in
set_option maxRecDepth 100000 in
theorem okX10_tellsAnswers (E : Ev) (l : Launch) (a0 : Nat) (h0 : Mem) : AMet E l yX10_tellsAnswers cX10_tellsAnswers 3 none rmX10_tellsAnswers [rf E a0] h0 rvV (fX10_tellsAnswers a0 h0) := by
  refine am_intro (plainFor_of_name (by decide +kernel)) (Nat.le_of_ble_eq_true rfl) (fun K hKl C hr hnm hz0 => ?_)
  replace C : CxOK K E RX10 cX10_tellsAnswers 3 := C
  have hE : E.1 + 1 ≤ (kS K).heap.size := by omega
  unfold fX10_tellsAnswers
  show Aw K E _ _ _ _ _ 0 [(0, rf E a0)] [] h0 _
  refine aw_aload_n (pc := 0) C dX10_tellsAnswers_0 rfl 0 rfl ?_
  refine aw_iconst (pc := 1) (v := 0) C dX10_tellsAnswers_1 (by decide) ?_
  refine aw_putI (pc := 2) C fw_X10_143 rfl rfl dX10_tellsAnswers_2 (fun h1 eh1 => ?_)
  refine aw_aload_n (pc := 5) C dX10_tellsAnswers_5 rfl 0 rfl ?_
  refine aw_getI (pc := 6) C fl_X10_22 dX10_tellsAnswers_6 (fun v2 ev2 => ?_)
  refine aw_ineg (pc := 9) C dX10_tellsAnswers_9 ?_
  refine aw_nmI (pc := 10) (fun v3 ev3 => ?_)
  refine aw_istore_n (pc := 10) (L' := [(1, .int v3), (0, rf E a0)]) C dX10_tellsAnswers_10 rfl (by decide) rfl ?_
  refine aw_sub (L' := [(0, rf E a0), (1, .int v3)]) [1, 0] rfl ?_
  refine aw_loop (pc := 11) (σ := Int32 × Mem) (fun s => [(0, rf E a0), (1, .int s.1)]) (fun s => s.2) _ (fun k6 ih7 s => ?_) _ _
  obtain ⟨v4, h5⟩ := s
  show Aw K E _ _ _ _ _ 11 [(0, rf E a0), (1, .int v4)] [] h5 _
  refine aw_iload_n (pc := 11) C dX10_tellsAnswers_11 rfl 1 rfl ?_
  refine aw_aload_n (pc := 12) C dX10_tellsAnswers_12 rfl 0 rfl ?_
  refine aw_getI (pc := 13) C fl_X10_22 dX10_tellsAnswers_13 (fun v8 ev8 => ?_)
  refine aw_icmp_gt (pc := 16) C 98 dX10_tellsAnswers_16 (by decide) (fun c32 => ?_) (fun c32 => ?_)
  · exact aw_return (pc := 98) C hr hz0 rfl dX10_tellsAnswers_98
  refine aw_aload_n (pc := 19) C dX10_tellsAnswers_19 rfl 0 rfl ?_
  refine aw_getI (pc := 20) C fl_X10_22 dX10_tellsAnswers_20 (fun v9 ev9 => ?_)
  refine aw_ineg (pc := 23) C dX10_tellsAnswers_23 ?_
  refine aw_nmI (pc := 24) (fun v10 ev10 => ?_)
  refine aw_istore_n (pc := 24) (L' := [(2, .int v10), (0, rf E a0), (1, .int v4)]) C dX10_tellsAnswers_24 rfl (by decide) rfl ?_
  refine aw_sub (L' := [(0, rf E a0), (1, .int v4), (2, .int v10)]) [1, 2, 0] rfl ?_
  refine aw_loop (pc := 25) (σ := Int32 × Mem) (fun s => [(0, rf E a0), (1, .int v4), (2, .int s.1)]) (fun s => s.2) _ (fun k13 ih14 s => ?_) _ _
  obtain ⟨v11, h12⟩ := s
  show Aw K E _ _ _ _ _ 25 [(0, rf E a0), (1, .int v4), (2, .int v11)] [] h12 _
  refine aw_iload_n (pc := 25) C dX10_tellsAnswers_25 rfl 2 rfl ?_
  refine aw_aload_n (pc := 26) C dX10_tellsAnswers_26 rfl 0 rfl ?_
  refine aw_getI (pc := 27) C fl_X10_22 dX10_tellsAnswers_27 (fun v15 ev15 => ?_)
  refine aw_icmp_gt (pc := 30) C 92 dX10_tellsAnswers_30 (by decide) (fun c31 => ?_) (fun c31 => ?_)
  · refine aw_iincN (pc := 92) (L1 := [(0, rf E a0), (2, .int v11)]) (k := 1) C dX10_tellsAnswers_92 1 rfl (by decide) (by decide) rfl (fun v30 ev30 => ?_)
    refine aw_goto (pc := 95) C 11 dX10_tellsAnswers_95 (by decide) ?_
    exact aw_sub (L' := [(0, rf E a0), (1, .int v30)]) [1, 0] rfl (ih7 (v30, h12))
  refine aw_aload_n (pc := 33) C dX10_tellsAnswers_33 rfl 0 rfl ?_
  refine aw_iload_n (pc := 34) C dX10_tellsAnswers_34 rfl 1 rfl ?_
  refine aw_i2l (pc := 35) C dX10_tellsAnswers_35 ?_
  refine aw_iload_n (pc := 36) C dX10_tellsAnswers_36 rfl 2 rfl ?_
  refine aw_i2l (pc := 37) C dX10_tellsAnswers_37 ?_
  refine aw_callVJ (pc := 38) (R := rmX10_tellsAnswers) (c := 10) (As := [.long v4.toInt64, .long v11.toInt64]) (rest := []) (st := [.long v11.toInt64, .long v4.toInt64, rf E a0]) (c' := 0) (s' := 0) C hE rfl (by decide) cal_X10_valueAt ml_X10_146 rfl ⟨(Nat.le_of_ble_eq_true rfl), (Nat.le_of_ble_eq_true rfl)⟩ ⟨(Nat.le_of_ble_eq_true rfl), (Nat.le_of_ble_eq_true rfl)⟩ dX10_tellsAnswers_38 (okX10_valueAt E (kL K) a0 v4.toInt64 v11.toInt64 h12) rfl (Nat.le_of_ble_eq_true rfl) rfl rfl (fun v17 h16 eh16 => ?_)
  refine aw_aload_n (pc := 41) C dX10_tellsAnswers_41 rfl 0 rfl ?_
  refine aw_getI (pc := 42) C fl_X10_19 dX10_tellsAnswers_42 (fun v18 ev18 => ?_)
  refine aw_i2l (pc := 45) C dX10_tellsAnswers_45 ?_
  refine aw_lcmp (pc := 46) C dX10_tellsAnswers_46 ?_
  refine aw_if_ne (pc := 47) C 86 dX10_tellsAnswers_47 (by decide) (fun c29 => ?_) (fun c29 => ?_)
  · refine aw_aload_n (pc := 50) C dX10_tellsAnswers_50 rfl 0 rfl ?_
    refine aw_getR (pc := 51) C fl_X10_41 dX10_tellsAnswers_51 (fun v19 ev19 => ?_)
    refine aw_iconst (pc := 54) (v := 2) C dX10_tellsAnswers_54 (by decide) ?_
    refine aw_aload_n (pc := 55) C dX10_tellsAnswers_55 rfl 0 rfl ?_
    refine aw_getI (pc := 56) C fl_X10_143 dX10_tellsAnswers_56 (fun v20 ev20 => ?_)
    refine aw_imul (pc := 59) C dX10_tellsAnswers_59 ?_
    refine aw_iload_n (pc := 60) C dX10_tellsAnswers_60 rfl 1 rfl ?_
    refine aw_iastore (pc := 61) C dX10_tellsAnswers_61 (fun h21 eh21 => ?_)
    refine aw_aload_n (pc := 62) C dX10_tellsAnswers_62 rfl 0 rfl ?_
    refine aw_getR (pc := 63) C fl_X10_41 dX10_tellsAnswers_63 (fun v22 ev22 => ?_)
    refine aw_iconst (pc := 66) (v := 2) C dX10_tellsAnswers_66 (by decide) ?_
    refine aw_aload_n (pc := 67) C dX10_tellsAnswers_67 rfl 0 rfl ?_
    refine aw_getI (pc := 68) C fl_X10_143 dX10_tellsAnswers_68 (fun v23 ev23 => ?_)
    refine aw_imul (pc := 71) C dX10_tellsAnswers_71 ?_
    refine aw_iconst (pc := 72) (v := 1) C dX10_tellsAnswers_72 (by decide) ?_
    refine aw_iadd (pc := 73) C dX10_tellsAnswers_73 ?_
    refine aw_iload_n (pc := 74) C dX10_tellsAnswers_74 rfl 2 rfl ?_
    refine aw_iastore (pc := 75) C dX10_tellsAnswers_75 (fun h24 eh24 => ?_)
    refine aw_aload_n (pc := 76) C dX10_tellsAnswers_76 rfl 0 rfl ?_
    refine aw_dup (pc := 77) C rfl dX10_tellsAnswers_77 ?_
    refine aw_getI (pc := 78) C fl_X10_143 dX10_tellsAnswers_78 (fun v25 ev25 => ?_)
    refine aw_iconst (pc := 81) (v := 1) C dX10_tellsAnswers_81 (by decide) ?_
    refine aw_iadd (pc := 82) C dX10_tellsAnswers_82 ?_
    refine aw_putI (pc := 83) C fw_X10_143 rfl rfl dX10_tellsAnswers_83 (fun h26 eh26 => ?_)
    refine aw_iincN (pc := 86) (L1 := [(0, rf E a0), (1, .int v4)]) (k := 1) C dX10_tellsAnswers_86 2 rfl (by decide) (by decide) rfl (fun v27 ev27 => ?_)
    refine aw_goto (pc := 89) C 25 dX10_tellsAnswers_89 (by decide) ?_
    exact aw_sub (L' := [(0, rf E a0), (1, .int v4), (2, .int v27)]) [1, 2, 0] rfl (ih14 (v27, h26))
  refine aw_iincN (pc := 86) (L1 := [(0, rf E a0), (1, .int v4)]) (k := 1) C dX10_tellsAnswers_86 2 rfl (by decide) (by decide) rfl (fun v28 ev28 => ?_)
  refine aw_goto (pc := 89) C 25 dX10_tellsAnswers_89 (by decide) ?_
  exact aw_sub (L' := [(0, rf E a0), (1, .int v4), (2, .int v28)]) [1, 2, 0] rfl (ih14 (v28, h16))
def rmX10_tellsUnits : Room := { frames := 2, cells := 0, slots := 0, locals := 55 }
set_option maxHeartbeats 4000000 in
set_option maxRecDepth 100000 in
theorem okX10_tellsUnits (E : Ev) (l : Launch) (a0 : Nat) (h0 : Mem) : AMet E l yX10_tellsUnits cX10_tellsUnits 8 none rmX10_tellsUnits [rf E a0] h0 rvV (fX10_tellsUnits a0 h0) := by
  refine am_intro (plainFor_of_name (by decide +kernel)) (Nat.le_of_ble_eq_true rfl) (fun K hKl C hr hnm hz0 => ?_)
  replace C : CxOK K E RX10 cX10_tellsUnits 8 := C
  have hE : E.1 + 1 ≤ (kS K).heap.size := by omega
  unfold fX10_tellsUnits
  show Aw K E _ _ _ _ _ 0 [(0, rf E a0)] [] h0 _
  refine aw_aload_n (pc := 0) C dX10_tellsUnits_0 rfl 0 rfl ?_
  refine aw_iconst (pc := 1) (v := 0) C dX10_tellsUnits_1 (by decide) ?_
  refine aw_putI (pc := 2) C fw_X10_150 rfl rfl dX10_tellsUnits_2 (fun h1 eh1 => ?_)
  refine aw_iconst (pc := 5) (v := 0) C dX10_tellsUnits_5 (by decide) ?_
  refine aw_istore_n (pc := 6) (L' := [(1, .int 0), (0, rf E a0)]) C dX10_tellsUnits_6 rfl (by decide) rfl ?_
  refine aw_sub (L' := [(0, rf E a0), (1, .int 0)]) [1, 0] rfl ?_
  refine aw_loop (pc := 7) (σ := Int32 × Mem) (fun s => [(0, rf E a0), (1, .int s.1)]) (fun s => s.2) _ (fun k4 ih5 s => ?_) _ _
  obtain ⟨v2, h3⟩ := s
  show Aw K E _ _ _ _ _ 7 [(0, rf E a0), (1, .int v2)] [] h3 _
  refine aw_iload_n (pc := 7) C dX10_tellsUnits_7 rfl 1 rfl ?_
  refine aw_sipush (pc := 8) (v := 625) C dX10_tellsUnits_8 (by decide) ?_
  refine aw_icmp_ge (pc := 11) C 212 dX10_tellsUnits_11 (by decide) (fun c48 => ?_) (fun c48 => ?_)
  · exact aw_return (pc := 212) C hr hz0 rfl dX10_tellsUnits_212
  refine aw_iload_n (pc := 14) C dX10_tellsUnits_14 rfl 1 rfl ?_
  refine aw_bipush (pc := 15) (v := 125) C dX10_tellsUnits_15 (by decide) ?_
  refine aw_idiv (pc := 17) C dX10_tellsUnits_17 (fun z17 => ?_)
  refine aw_iconst (pc := 18) (v := 2) C dX10_tellsUnits_18 (by decide) ?_
  refine aw_isub (pc := 19) C dX10_tellsUnits_19 ?_
  refine aw_nmI (pc := 20) (fun v6 ev6 => ?_)
  refine aw_istore_n (pc := 20) (L' := [(2, .int v6), (0, rf E a0), (1, .int v2)]) C dX10_tellsUnits_20 rfl (by decide) rfl ?_
  refine aw_iload_n (pc := 21) C dX10_tellsUnits_21 rfl 2 rfl ?_
  refine aw_bipush (pc := 22) (v := 25) C dX10_tellsUnits_22 (by decide) ?_
  refine aw_idiv (pc := 24) C dX10_tellsUnits_24 (fun z24 => ?_)
  refine aw_iconst (pc := 25) (v := 5) C dX10_tellsUnits_25 (by decide) ?_
  refine aw_irem (pc := 26) C dX10_tellsUnits_26 (fun z26 => ?_)
  refine aw_iconst (pc := 27) (v := 2) C dX10_tellsUnits_27 (by decide) ?_
  refine aw_isub (pc := 28) C dX10_tellsUnits_28 ?_
  refine aw_nmI (pc := 29) (fun v7 ev7 => ?_)
  refine aw_istore_n (pc := 29) (L' := [(3, .int v7), (2, .int v6), (0, rf E a0), (1, .int v2)]) C dX10_tellsUnits_29 rfl (by decide) rfl ?_
  refine aw_iload_n (pc := 30) C dX10_tellsUnits_30 rfl 3 rfl ?_
  refine aw_iconst (pc := 31) (v := 5) C dX10_tellsUnits_31 (by decide) ?_
  refine aw_idiv (pc := 32) C dX10_tellsUnits_32 (fun z32 => ?_)
  refine aw_iconst (pc := 33) (v := 5) C dX10_tellsUnits_33 (by decide) ?_
  refine aw_irem (pc := 34) C dX10_tellsUnits_34 (fun z34 => ?_)
  refine aw_iconst (pc := 35) (v := 2) C dX10_tellsUnits_35 (by decide) ?_
  refine aw_isub (pc := 36) C dX10_tellsUnits_36 ?_
  refine aw_nmI (pc := 37) (fun v8 ev8 => ?_)
  refine aw_istore (pc := 37) (L' := [(4, .int v8), (3, .int v7), (2, .int v6), (0, rf E a0), (1, .int v2)]) C dX10_tellsUnits_37 (by decide) rfl ?_
  refine aw_iload_n (pc := 39) C dX10_tellsUnits_39 rfl 4 rfl ?_
  refine aw_iconst (pc := 40) (v := 5) C dX10_tellsUnits_40 (by decide) ?_
  refine aw_irem (pc := 41) C dX10_tellsUnits_41 (fun z41 => ?_)
  refine aw_iconst (pc := 42) (v := 2) C dX10_tellsUnits_42 (by decide) ?_
  refine aw_isub (pc := 43) C dX10_tellsUnits_43 ?_
  refine aw_nmI (pc := 44) (fun v9 ev9 => ?_)
  refine aw_istore (pc := 44) (L' := [(5, .int v9), (4, .int v8), (3, .int v7), (2, .int v6), (0, rf E a0), (1, .int v2)]) C dX10_tellsUnits_44 (by decide) rfl ?_
  refine aw_iload_n (pc := 46) C dX10_tellsUnits_46 rfl 3 rfl ?_
  refine aw_iload (pc := 47) C dX10_tellsUnits_47 0 rfl ?_
  refine aw_imul (pc := 49) C dX10_tellsUnits_49 ?_
  refine aw_iload_n (pc := 50) C dX10_tellsUnits_50 rfl 2 rfl ?_
  refine aw_iload (pc := 51) C dX10_tellsUnits_51 1 rfl ?_
  refine aw_imul (pc := 53) C dX10_tellsUnits_53 ?_
  refine aw_isub (pc := 54) C dX10_tellsUnits_54 ?_
  refine aw_iconst (pc := 55) (v := 1) C dX10_tellsUnits_55 (by decide) ?_
  refine aw_jn (σ := Unit) 72 (fun s => [(0, rf E a0), (1, .int v2), (2, .int v6), (3, .int v7), (4, .int v8), (5, .int v9)]) (fun s => []) (fun s => h3) (fun s => ?_) (fun k10 jk11 => ?_)
  · show Aw K E _ _ _ _ _ 72 [(0, rf E a0), (1, .int v2), (2, .int v6), (3, .int v7), (4, .int v8), (5, .int v9)] [] h3 _
    refine aw_aload_n (pc := 72) C dX10_tellsUnits_72 rfl 0 rfl ?_
    refine aw_iload_n (pc := 73) C dX10_tellsUnits_73 rfl 2 rfl ?_
    refine aw_i2l (pc := 74) C dX10_tellsUnits_74 ?_
    refine aw_iload_n (pc := 75) C dX10_tellsUnits_75 rfl 3 rfl ?_
    refine aw_i2l (pc := 76) C dX10_tellsUnits_76 ?_
    refine aw_iload (pc := 77) C dX10_tellsUnits_77 4 rfl ?_
    refine aw_i2l (pc := 79) C dX10_tellsUnits_79 ?_
    refine aw_iload (pc := 80) C dX10_tellsUnits_80 5 rfl ?_
    refine aw_i2l (pc := 82) C dX10_tellsUnits_82 ?_
    refine aw_callVV (pc := 83) (R := rmX10_tellsUnits) (c := 10) (As := [.long v6.toInt64, .long v7.toInt64, .long v8.toInt64, .long v9.toInt64]) (rest := []) (st := [.long v9.toInt64, .long v8.toInt64, .long v7.toInt64, .long v6.toInt64, rf E a0]) (c' := 0) (s' := 0) C hE rfl (by decide) cal_X10_turns ml_X10_126 rfl ⟨(Nat.le_of_ble_eq_true rfl), (Nat.le_of_ble_eq_true rfl)⟩ ⟨(Nat.le_of_ble_eq_true rfl), (Nat.le_of_ble_eq_true rfl)⟩ dX10_tellsUnits_83 (okX10_turns E (kL K) a0 v6.toInt64 v7.toInt64 v8.toInt64 v9.toInt64 h3) rfl (Nat.le_of_ble_eq_true rfl) rfl rfl (fun _u h12 eh12 => ?_)
    refine aw_iconst (pc := 86) (v := 1) C dX10_tellsUnits_86 (by decide) ?_
    refine aw_istore (pc := 87) (L' := [(6, .int 1), (0, rf E a0), (1, .int v2), (2, .int v6), (3, .int v7), (4, .int v8), (5, .int v9)]) C dX10_tellsUnits_87 (by decide) rfl ?_
    refine aw_iconst (pc := 89) (v := 0) C dX10_tellsUnits_89 (by decide) ?_
    refine aw_istore (pc := 90) (L' := [(7, .int 0), (6, .int 1), (0, rf E a0), (1, .int v2), (2, .int v6), (3, .int v7), (4, .int v8), (5, .int v9)]) C dX10_tellsUnits_90 (by decide) rfl ?_
    refine aw_sub (L' := [(0, rf E a0), (1, .int v2), (2, .int v6), (3, .int v7), (4, .int v8), (5, .int v9), (6, .int 1), (7, .int 0)]) [2, 3, 4, 5, 6, 7, 1, 0] rfl ?_
    refine aw_loop (pc := 92) (σ := Int32 × Int32) (fun s => [(0, rf E a0), (1, .int v2), (2, .int v6), (3, .int v7), (4, .int v8), (5, .int v9), (6, .int s.1), (7, .int s.2)]) (fun s => h12) _ (fun k15 ih16 s => ?_) _ _
    obtain ⟨v13, v14⟩ := s
    show Aw K E _ _ _ _ _ 92 [(0, rf E a0), (1, .int v2), (2, .int v6), (3, .int v7), (4, .int v8), (5, .int v9), (6, .int v13), (7, .int v14)] [] h12 _
    refine aw_iload (pc := 92) C dX10_tellsUnits_92 7 rfl ?_
    refine aw_aload_n (pc := 94) C dX10_tellsUnits_94 rfl 0 rfl ?_
    refine aw_getI (pc := 95) C fl_X10_9 dX10_tellsUnits_95 (fun v17 ev17 => ?_)
    refine aw_icmp_gt (pc := 98) C 135 dX10_tellsUnits_98 (by decide) (fun c44 => ?_) (fun c44 => ?_)
    · refine aw_iload (pc := 135) C dX10_tellsUnits_135 6 rfl ?_
      refine aw_if_eq (pc := 137) C 206 dX10_tellsUnits_137 (by decide) (fun c43 => ?_) (fun c43 => ?_)
      · refine aw_iincN (pc := 206) (L1 := [(0, rf E a0), (2, .int v6), (3, .int v7), (4, .int v8), (5, .int v9), (6, .int v13), (7, .int v14)]) (k := 1) C dX10_tellsUnits_206 1 rfl (by decide) (by decide) rfl (fun v42 ev42 => ?_)
        refine aw_goto (pc := 209) C 7 dX10_tellsUnits_209 (by decide) ?_
        exact aw_sub (L' := [(0, rf E a0), (1, .int v42)]) [1, 0] rfl (ih5 (v42, h12))
      refine aw_aload_n (pc := 140) C dX10_tellsUnits_140 rfl 0 rfl ?_
      refine aw_getR (pc := 141) C fl_X10_44 dX10_tellsUnits_141 (fun v27 ev27 => ?_)
      refine aw_iconst (pc := 144) (v := 4) C dX10_tellsUnits_144 (by decide) ?_
      refine aw_aload_n (pc := 145) C dX10_tellsUnits_145 rfl 0 rfl ?_
      refine aw_getI (pc := 146) C fl_X10_150 dX10_tellsUnits_146 (fun v28 ev28 => ?_)
      refine aw_imul (pc := 149) C dX10_tellsUnits_149 ?_
      refine aw_iload_n (pc := 150) C dX10_tellsUnits_150 rfl 2 rfl ?_
      refine aw_iastore (pc := 151) C dX10_tellsUnits_151 (fun h29 eh29 => ?_)
      refine aw_aload_n (pc := 152) C dX10_tellsUnits_152 rfl 0 rfl ?_
      refine aw_getR (pc := 153) C fl_X10_44 dX10_tellsUnits_153 (fun v30 ev30 => ?_)
      refine aw_iconst (pc := 156) (v := 4) C dX10_tellsUnits_156 (by decide) ?_
      refine aw_aload_n (pc := 157) C dX10_tellsUnits_157 rfl 0 rfl ?_
      refine aw_getI (pc := 158) C fl_X10_150 dX10_tellsUnits_158 (fun v31 ev31 => ?_)
      refine aw_imul (pc := 161) C dX10_tellsUnits_161 ?_
      refine aw_iconst (pc := 162) (v := 1) C dX10_tellsUnits_162 (by decide) ?_
      refine aw_iadd (pc := 163) C dX10_tellsUnits_163 ?_
      refine aw_iload_n (pc := 164) C dX10_tellsUnits_164 rfl 3 rfl ?_
      refine aw_iastore (pc := 165) C dX10_tellsUnits_165 (fun h32 eh32 => ?_)
      refine aw_aload_n (pc := 166) C dX10_tellsUnits_166 rfl 0 rfl ?_
      refine aw_getR (pc := 167) C fl_X10_44 dX10_tellsUnits_167 (fun v33 ev33 => ?_)
      refine aw_iconst (pc := 170) (v := 4) C dX10_tellsUnits_170 (by decide) ?_
      refine aw_aload_n (pc := 171) C dX10_tellsUnits_171 rfl 0 rfl ?_
      refine aw_getI (pc := 172) C fl_X10_150 dX10_tellsUnits_172 (fun v34 ev34 => ?_)
      refine aw_imul (pc := 175) C dX10_tellsUnits_175 ?_
      refine aw_iconst (pc := 176) (v := 2) C dX10_tellsUnits_176 (by decide) ?_
      refine aw_iadd (pc := 177) C dX10_tellsUnits_177 ?_
      refine aw_iload (pc := 178) C dX10_tellsUnits_178 4 rfl ?_
      refine aw_iastore (pc := 180) C dX10_tellsUnits_180 (fun h35 eh35 => ?_)
      refine aw_aload_n (pc := 181) C dX10_tellsUnits_181 rfl 0 rfl ?_
      refine aw_getR (pc := 182) C fl_X10_44 dX10_tellsUnits_182 (fun v36 ev36 => ?_)
      refine aw_iconst (pc := 185) (v := 4) C dX10_tellsUnits_185 (by decide) ?_
      refine aw_aload_n (pc := 186) C dX10_tellsUnits_186 rfl 0 rfl ?_
      refine aw_getI (pc := 187) C fl_X10_150 dX10_tellsUnits_187 (fun v37 ev37 => ?_)
      refine aw_imul (pc := 190) C dX10_tellsUnits_190 ?_
      refine aw_iconst (pc := 191) (v := 3) C dX10_tellsUnits_191 (by decide) ?_
      refine aw_iadd (pc := 192) C dX10_tellsUnits_192 ?_
      refine aw_iload (pc := 193) C dX10_tellsUnits_193 5 rfl ?_
      refine aw_iastore (pc := 195) C dX10_tellsUnits_195 (fun h38 eh38 => ?_)
      refine aw_aload_n (pc := 196) C dX10_tellsUnits_196 rfl 0 rfl ?_
      refine aw_dup (pc := 197) C rfl dX10_tellsUnits_197 ?_
      refine aw_getI (pc := 198) C fl_X10_150 dX10_tellsUnits_198 (fun v39 ev39 => ?_)
      refine aw_iconst (pc := 201) (v := 1) C dX10_tellsUnits_201 (by decide) ?_
      refine aw_iadd (pc := 202) C dX10_tellsUnits_202 ?_
      refine aw_putI (pc := 203) C fw_X10_150 rfl rfl dX10_tellsUnits_203 (fun h40 eh40 => ?_)
      refine aw_iincN (pc := 206) (L1 := [(0, rf E a0), (2, .int v6), (3, .int v7), (4, .int v8), (5, .int v9), (6, .int v13), (7, .int v14)]) (k := 1) C dX10_tellsUnits_206 1 rfl (by decide) (by decide) rfl (fun v41 ev41 => ?_)
      refine aw_goto (pc := 209) C 7 dX10_tellsUnits_209 (by decide) ?_
      exact aw_sub (L' := [(0, rf E a0), (1, .int v41)]) [1, 0] rfl (ih5 (v41, h40))
    refine aw_iload (pc := 101) C dX10_tellsUnits_101 6 rfl ?_
    refine aw_aload_n (pc := 103) C dX10_tellsUnits_103 rfl 0 rfl ?_
    refine aw_getR (pc := 104) C fl_X10_35 dX10_tellsUnits_104 (fun v18 ev18 => ?_)
    refine aw_iload (pc := 107) C dX10_tellsUnits_107 7 rfl ?_
    refine aw_laload (pc := 109) C dX10_tellsUnits_109 (fun v19 ev19 => ?_)
    refine aw_aload_n (pc := 110) C dX10_tellsUnits_110 rfl 0 rfl ?_
    refine aw_getR (pc := 111) C fl_X10_15 dX10_tellsUnits_111 (fun v20 ev20 => ?_)
    refine aw_iload (pc := 114) C dX10_tellsUnits_114 7 rfl ?_
    refine aw_laload (pc := 116) C dX10_tellsUnits_116 (fun v21 ev21 => ?_)
    refine aw_lcmp (pc := 117) C dX10_tellsUnits_117 ?_
    refine aw_if_ne (pc := 118) C 125 dX10_tellsUnits_118 (by decide) (fun c26 => ?_) (fun c26 => ?_)
    · refine aw_iconst (pc := 121) (v := 1) C dX10_tellsUnits_121 (by decide) ?_
      refine aw_goto (pc := 122) C 126 dX10_tellsUnits_122 (by decide) ?_
      refine aw_iand (pc := 126) C dX10_tellsUnits_126 ?_
      refine aw_nmI (pc := 127) (fun v22 ev22 => ?_)
      refine aw_istore (pc := 127) (L' := [(6, .int v22), (0, rf E a0), (1, .int v2), (2, .int v6), (3, .int v7), (4, .int v8), (5, .int v9), (7, .int v14)]) C dX10_tellsUnits_127 (by decide) rfl ?_
      refine aw_iincN (pc := 129) (L1 := [(6, .int v22), (0, rf E a0), (1, .int v2), (2, .int v6), (3, .int v7), (4, .int v8), (5, .int v9)]) (k := 1) C dX10_tellsUnits_129 7 rfl (by decide) (by decide) rfl (fun v23 ev23 => ?_)
      refine aw_goto (pc := 132) C 92 dX10_tellsUnits_132 (by decide) ?_
      exact aw_sub (L' := [(0, rf E a0), (1, .int v2), (2, .int v6), (3, .int v7), (4, .int v8), (5, .int v9), (6, .int v22), (7, .int v23)]) [2, 3, 4, 5, 6, 7, 1, 0] rfl (ih16 (v22, v23))
    refine aw_iconst (pc := 125) (v := 0) C dX10_tellsUnits_125 (by decide) ?_
    refine aw_iand (pc := 126) C dX10_tellsUnits_126 ?_
    refine aw_nmI (pc := 127) (fun v24 ev24 => ?_)
    refine aw_istore (pc := 127) (L' := [(6, .int v24), (0, rf E a0), (1, .int v2), (2, .int v6), (3, .int v7), (4, .int v8), (5, .int v9), (7, .int v14)]) C dX10_tellsUnits_127 (by decide) rfl ?_
    refine aw_iincN (pc := 129) (L1 := [(6, .int v24), (0, rf E a0), (1, .int v2), (2, .int v6), (3, .int v7), (4, .int v8), (5, .int v9)]) (k := 1) C dX10_tellsUnits_129 7 rfl (by decide) (by decide) rfl (fun v25 ev25 => ?_)
    refine aw_goto (pc := 132) C 92 dX10_tellsUnits_132 (by decide) ?_
    exact aw_sub (L' := [(0, rf E a0), (1, .int v2), (2, .int v6), (3, .int v7), (4, .int v8), (5, .int v9), (6, .int v24), (7, .int v25)]) [2, 3, 4, 5, 6, 7, 1, 0] rfl (ih16 (v24, v25))
  refine aw_icmp_eq (pc := 56) C 72 dX10_tellsUnits_56 (by decide) (fun c47 => ?_) (fun c47 => ?_)
  · exact aw_sub (L' := [(0, rf E a0), (1, .int v2), (2, .int v6), (3, .int v7), (4, .int v8), (5, .int v9)]) [4, 5, 3, 2, 1, 0] rfl (jk11 ())
  refine aw_iload_n (pc := 59) C dX10_tellsUnits_59 rfl 3 rfl ?_
  refine aw_iload (pc := 60) C dX10_tellsUnits_60 0 rfl ?_
  refine aw_imul (pc := 62) C dX10_tellsUnits_62 ?_
  refine aw_iload_n (pc := 63) C dX10_tellsUnits_63 rfl 2 rfl ?_
  refine aw_iload (pc := 64) C dX10_tellsUnits_64 1 rfl ?_
  refine aw_imul (pc := 66) C dX10_tellsUnits_66 ?_
  refine aw_isub (pc := 67) C dX10_tellsUnits_67 ?_
  refine aw_iconst (pc := 68) (v := (-1)) C dX10_tellsUnits_68 (by decide) ?_
  refine aw_icmp_ne (pc := 69) C 206 dX10_tellsUnits_69 (by decide) (fun c46 => ?_) (fun c46 => ?_)
  · exact aw_sub (L' := [(0, rf E a0), (1, .int v2), (2, .int v6), (3, .int v7), (4, .int v8), (5, .int v9)]) [4, 5, 3, 2, 1, 0] rfl (jk11 ())
  refine aw_iincN (pc := 206) (L1 := [(5, .int v9), (4, .int v8), (3, .int v7), (2, .int v6), (0, rf E a0)]) (k := 1) C dX10_tellsUnits_206 5 rfl (by decide) (by decide) rfl (fun v45 ev45 => ?_)
  refine aw_goto (pc := 209) C 7 dX10_tellsUnits_209 (by decide) ?_
  exact aw_sub (L' := [(0, rf E a0), (1, .int v45)]) [5, 0] rfl (ih5 (v45, h3))
def rmX10_cell : Room := { frames := 0, cells := 0, slots := 0, locals := 0 }
set_option maxHeartbeats 4000000 in
set_option maxRecDepth 100000 in
theorem okX10_cell (E : Ev) (l : Launch) (a0 : Nat) (a1 : Int32) (a2 : Int32) (h0 : Mem) : AMet E l yX10_cell cX10_cell 3 (some (.int)) rmX10_cell [rf E a0, .int a1, .int a2] h0 rvI (fX10_cell a0 a1 a2 h0) := by
  refine am_intro (plainFor_of_name (by decide +kernel)) (Nat.le_of_ble_eq_true rfl) (fun K hKl C hr hnm hz0 => ?_)
  replace C : CxOK K E RX10 cX10_cell 3 := C
  have hE : E.1 + 1 ≤ (kS K).heap.size := by omega
  unfold fX10_cell
  show Aw K E _ _ _ _ _ 0 [(0, rf E a0), (1, .int a1), (2, .int a2)] [] h0 _
  refine aw_iload_n (pc := 0) C dX10_cell_0 rfl 1 rfl ?_
  refine aw_aload_n (pc := 1) C dX10_cell_1 rfl 0 rfl ?_
  refine aw_getI (pc := 2) C fl_X10_22 dX10_cell_2 (fun v1 ev1 => ?_)
  refine aw_iadd (pc := 5) C dX10_cell_5 ?_
  refine aw_iconst (pc := 6) (v := 2) C dX10_cell_6 (by decide) ?_
  refine aw_aload_n (pc := 7) C dX10_cell_7 rfl 0 rfl ?_
  refine aw_getI (pc := 8) C fl_X10_22 dX10_cell_8 (fun v2 ev2 => ?_)
  refine aw_imul (pc := 11) C dX10_cell_11 ?_
  refine aw_iconst (pc := 12) (v := 1) C dX10_cell_12 (by decide) ?_
  refine aw_iadd (pc := 13) C dX10_cell_13 ?_
  refine aw_imul (pc := 14) C dX10_cell_14 ?_
  refine aw_iload_n (pc := 15) C dX10_cell_15 rfl 2 rfl ?_
  refine aw_iadd (pc := 16) C dX10_cell_16 ?_
  refine aw_aload_n (pc := 17) C dX10_cell_17 rfl 0 rfl ?_
  refine aw_getI (pc := 18) C fl_X10_22 dX10_cell_18 (fun v3 ev3 => ?_)
  refine aw_iadd (pc := 21) C dX10_cell_21 ?_
  exact aw_ireturn (pc := 22) C hr rfl hz0 rfl dX10_cell_22
def rmX10_leastOf : Room := { frames := 0, cells := 0, slots := 0, locals := 0 }
set_option maxHeartbeats 4000000 in
set_option maxRecDepth 100000 in
theorem okX10_leastOf (E : Ev) (l : Launch) (a0 : Nat) (a1 : Int32) (h0 : Mem) : AMet E l yX10_leastOf cX10_leastOf 3 (some (.int)) rmX10_leastOf [rf E a0, .int a1] h0 rvI (fX10_leastOf a0 a1 h0) := by
  refine am_intro (plainFor_of_name (by decide +kernel)) (Nat.le_of_ble_eq_true rfl) (fun K hKl C hr hnm hz0 => ?_)
  replace C : CxOK K E RX10 cX10_leastOf 3 := C
  have hE : E.1 + 1 ≤ (kS K).heap.size := by omega
  unfold fX10_leastOf
  show Aw K E _ _ _ _ _ 0 [(0, rf E a0), (1, .int a1)] [] h0 _
  refine aw_iload_n (pc := 0) C dX10_leastOf_0 rfl 1 rfl ?_
  refine aw_istore_n (pc := 1) (L' := [(2, .int a1), (0, rf E a0), (1, .int a1)]) C dX10_leastOf_1 rfl (by decide) rfl ?_
  refine aw_sub (L' := [(0, rf E a0), (2, .int a1)]) [1, 0] rfl ?_
  refine aw_loop (pc := 2) (σ := Int32) (fun s => [(0, rf E a0), (2, .int s)]) (fun s => h0) _ (fun k2 ih3 s => ?_) _ _
  generalize s = v1
  show Aw K E _ _ _ _ _ 2 [(0, rf E a0), (2, .int v1)] [] h0 _
  refine aw_aload_n (pc := 2) C dX10_leastOf_2 rfl 0 rfl ?_
  refine aw_getR (pc := 3) C fl_X10_50 dX10_leastOf_3 (fun v4 ev4 => ?_)
  refine aw_iload_n (pc := 6) C dX10_leastOf_6 rfl 1 rfl ?_
  refine aw_iaload (pc := 7) C dX10_leastOf_7 (fun v5 ev5 => ?_)
  refine aw_iload_n (pc := 8) C dX10_leastOf_8 rfl 1 rfl ?_
  refine aw_icmp_eq (pc := 9) C 22 dX10_leastOf_9 (by decide) (fun c8 => ?_) (fun c8 => ?_)
  · refine aw_iload_n (pc := 22) C dX10_leastOf_22 rfl 1 rfl ?_
    exact aw_ireturn (pc := 23) C hr rfl hz0 rfl dX10_leastOf_23
  refine aw_aload_n (pc := 12) C dX10_leastOf_12 rfl 0 rfl ?_
  refine aw_getR (pc := 13) C fl_X10_50 dX10_leastOf_13 (fun v6 ev6 => ?_)
  refine aw_iload_n (pc := 16) C dX10_leastOf_16 rfl 1 rfl ?_
  refine aw_iaload (pc := 17) C dX10_leastOf_17 (fun v7 ev7 => ?_)
  refine aw_istore_n (pc := 18) (L' := [(2, .int v7), (0, rf E a0)]) C dX10_leastOf_18 rfl (by decide) rfl ?_
  refine aw_goto (pc := 19) C 2 dX10_leastOf_19 (by decide) ?_
  exact aw_sub (L' := [(0, rf E a0), (2, .int v7)]) [1, 0] rfl (ih3 v7)
def rmX10_links : Room := { frames := 1, cells := 0, slots := 0, locals := 22 }
set_option maxHeartbeats 4000000 in
set_option maxRecDepth 100000 in
theorem okX10_links (E : Ev) (l : Launch) (a0 : Nat) (a1 : Int32) (a2 : Int32) (h0 : Mem) : AMet E l yX10_links cX10_links 5 none rmX10_links [rf E a0, .int a1, .int a2] h0 rvV (fX10_links a0 a1 a2 h0) := by
  refine am_intro (plainFor_of_name (by decide +kernel)) (Nat.le_of_ble_eq_true rfl) (fun K hKl C hr hnm hz0 => ?_)
  replace C : CxOK K E RX10 cX10_links 5 := C
  have hE : E.1 + 1 ≤ (kS K).heap.size := by omega
  unfold fX10_links
  show Aw K E _ _ _ _ _ 0 [(0, rf E a0), (1, .int a1), (2, .int a2)] [] h0 _
  refine aw_aload_n (pc := 0) C dX10_links_0 rfl 0 rfl ?_
  refine aw_iload_n (pc := 1) C dX10_links_1 rfl 1 rfl ?_
  refine aw_callVI (pc := 2) (R := rmX10_links) (c := 10) (As := [.int a1]) (rest := []) (st := [.int a1, rf E a0]) (c' := 0) (s' := 0) C hE rfl (by decide) cal_X10_leastOf ml_X10_153 rfl ⟨(Nat.le_of_ble_eq_true rfl), (Nat.le_of_ble_eq_true rfl)⟩ ⟨(Nat.le_of_ble_eq_true rfl), (Nat.le_of_ble_eq_true rfl)⟩ dX10_links_2 (okX10_leastOf E (kL K) a0 a1 h0) rfl (Nat.le_of_ble_eq_true rfl) rfl rfl (fun v2 h1 eh1 => ?_)
  refine aw_istore_n (pc := 5) (L' := [(3, .int v2), (0, rf E a0), (1, .int a1), (2, .int a2)]) C dX10_links_5 rfl (by decide) rfl ?_
  refine aw_aload_n (pc := 6) C dX10_links_6 rfl 1 rfl ?_
  refine aw_iload_n (pc := 7) C dX10_links_7 rfl 3 rfl ?_
  refine aw_callVI (pc := 8) (R := rmX10_links) (c := 10) (As := [.int a2]) (rest := []) (st := [.int a2, rf E a0]) (c' := 0) (s' := 0) C hE rfl (by decide) cal_X10_leastOf ml_X10_153 rfl ⟨(Nat.le_of_ble_eq_true rfl), (Nat.le_of_ble_eq_true rfl)⟩ ⟨(Nat.le_of_ble_eq_true rfl), (Nat.le_of_ble_eq_true rfl)⟩ dX10_links_8 (okX10_leastOf E (kL K) a0 a2 h1) rfl (Nat.le_of_ble_eq_true rfl) rfl rfl (fun v4 h3 eh3 => ?_)
  refine aw_istore (pc := 11) (L' := [(4, .int v4), (3, .int v2), (0, rf E a0), (1, .int a1), (2, .int a2)]) C dX10_links_11 (by decide) rfl ?_
  refine aw_aload_n (pc := 13) C dX10_links_13 rfl 2 rfl ?_
  refine aw_getR (pc := 14) C fl_X10_50 dX10_links_14 (fun v5 ev5 => ?_)
  refine aw_iload_n (pc := 17) C dX10_links_17 rfl 1 rfl ?_
  refine aw_iload (pc := 18) C dX10_links_18 0 rfl ?_
  refine aw_icmp_le (pc := 20) C 27 dX10_links_20 (by decide) (fun c12 => ?_) (fun c12 => ?_)
  · refine aw_iload (pc := 27) C dX10_links_27 0 rfl ?_
    refine aw_iload_n (pc := 29) C dX10_links_29 rfl 1 rfl ?_
    refine aw_iload (pc := 30) C dX10_links_30 0 rfl ?_
    refine aw_icmp_le (pc := 32) C 40 dX10_links_32 (by decide) (fun c11 => ?_) (fun c11 => ?_)
    · refine aw_iload_n (pc := 40) C dX10_links_40 rfl 1 rfl ?_
      refine aw_iastore (pc := 41) C dX10_links_41 (fun h10 eh10 => ?_)
      exact aw_return (pc := 42) C hr hz0 rfl dX10_links_42
    refine aw_iload (pc := 35) C dX10_links_35 0 rfl ?_
    refine aw_goto (pc := 37) C 41 dX10_links_37 (by decide) ?_
    refine aw_iastore (pc := 41) C dX10_links_41 (fun h9 eh9 => ?_)
    exact aw_return (pc := 42) C hr hz0 rfl dX10_links_42
  refine aw_iload_n (pc := 23) C dX10_links_23 rfl 1 rfl ?_
  refine aw_goto (pc := 24) C 29 dX10_links_24 (by decide) ?_
  refine aw_iload_n (pc := 29) C dX10_links_29 rfl 1 rfl ?_
  refine aw_iload (pc := 30) C dX10_links_30 0 rfl ?_
  refine aw_icmp_le (pc := 32) C 40 dX10_links_32 (by decide) (fun c8 => ?_) (fun c8 => ?_)
  · refine aw_iload_n (pc := 40) C dX10_links_40 rfl 1 rfl ?_
    refine aw_iastore (pc := 41) C dX10_links_41 (fun h7 eh7 => ?_)
    exact aw_return (pc := 42) C hr hz0 rfl dX10_links_42
  refine aw_iload (pc := 35) C dX10_links_35 0 rfl ?_
  refine aw_goto (pc := 37) C 41 dX10_links_37 (by decide) ?_
  refine aw_iastore (pc := 41) C dX10_links_41 (fun h6 eh6 => ?_)
  exact aw_return (pc := 42) C hr hz0 rfl dX10_links_42
def rmX10_tellsFamilies : Room := { frames := 3, cells := 0, slots := 0, locals := 82 }
set_option maxHeartbeats 4000000 in
set_option maxRecDepth 100000 in
theorem okX10_tellsFamilies (E : Ev) (l : Launch) (a0 : Nat) (h0 : Mem) : AMet E l yX10_tellsFamilies cX10_tellsFamilies 5 none rmX10_tellsFamilies [rf E a0] h0 rvV (fX10_tellsFamilies a0 h0) := by
  refine am_intro (plainFor_of_name (by decide +kernel)) (Nat.le_of_ble_eq_true rfl) (fun K hKl C hr hnm hz0 => ?_)
  replace C : CxOK K E RX10 cX10_tellsFamilies 5 := C
  have hE : E.1 + 1 ≤ (kS K).heap.size := by omega
  unfold fX10_tellsFamilies
  show Aw K E _ _ _ _ _ 0 [(0, rf E a0)] [] h0 _
  refine aw_aload_n (pc := 0) C dX10_tellsFamilies_0 rfl 0 rfl ?_
  refine aw_callVV (pc := 1) (R := rmX10_tellsFamilies) (c := 10) (As := []) (rest := []) (st := [rf E a0]) (c' := 0) (s' := 0) C hE rfl (by decide) cal_X10_tellsAnswers ml_X10_157 rfl ⟨(Nat.le_of_ble_eq_true rfl), (Nat.le_of_ble_eq_true rfl)⟩ ⟨(Nat.le_of_ble_eq_true rfl), (Nat.le_of_ble_eq_true rfl)⟩ dX10_tellsFamilies_1 (okX10_tellsAnswers E (kL K) a0 h0) rfl (Nat.le_of_ble_eq_true rfl) rfl rfl (fun _u h1 eh1 => ?_)
  refine aw_aload_n (pc := 4) C dX10_tellsFamilies_4 rfl 0 rfl ?_
  refine aw_callVV (pc := 5) (R := rmX10_tellsFamilies) (c := 10) (As := []) (rest := []) (st := [rf E a0]) (c' := 0) (s' := 0) C hE rfl (by decide) cal_X10_tellsUnits ml_X10_160 rfl ⟨(Nat.le_of_ble_eq_true rfl), (Nat.le_of_ble_eq_true rfl)⟩ ⟨(Nat.le_of_ble_eq_true rfl), (Nat.le_of_ble_eq_true rfl)⟩ dX10_tellsFamilies_5 (okX10_tellsUnits E (kL K) a0 h1) rfl (Nat.le_of_ble_eq_true rfl) rfl rfl (fun _u h2 eh2 => ?_)
  refine aw_iconst (pc := 8) (v := 0) C dX10_tellsFamilies_8 (by decide) ?_
  refine aw_istore_n (pc := 9) (L' := [(1, .int 0), (0, rf E a0)]) C dX10_tellsFamilies_9 rfl (by decide) rfl ?_
  refine aw_sub (L' := [(0, rf E a0), (1, .int 0)]) [1, 0] rfl ?_
  refine aw_loop (pc := 10) (σ := Int32 × Mem) (fun s => [(0, rf E a0), (1, .int s.1)]) (fun s => s.2) _ (fun k5 ih6 s => ?_) _ _
  obtain ⟨v3, h4⟩ := s
  show Aw K E _ _ _ _ _ 10 [(0, rf E a0), (1, .int v3)] [] h4 _
  refine aw_iload_n (pc := 10) C dX10_tellsFamilies_10 rfl 1 rfl ?_
  refine aw_sipush (pc := 11) (v := 6561) C dX10_tellsFamilies_11 (by decide) ?_
  refine aw_icmp_ge (pc := 14) C 30 dX10_tellsFamilies_14 (by decide) (fun c99 => ?_) (fun c99 => ?_)
  · refine aw_iconst (pc := 30) (v := 0) C dX10_tellsFamilies_30 (by decide) ?_
    refine aw_istore_n (pc := 31) (L' := [(1, .int 0), (0, rf E a0)]) C dX10_tellsFamilies_31 rfl (by decide) rfl ?_
    refine aw_sub (L' := [(0, rf E a0), (1, .int 0)]) [1, 0] rfl ?_
    refine aw_loop (pc := 32) (σ := Int32 × Mem) (fun s => [(0, rf E a0), (1, .int s.1)]) (fun s => s.2) _ (fun k12 ih13 s => ?_) _ _
    obtain ⟨v10, h11⟩ := s
    show Aw K E _ _ _ _ _ 32 [(0, rf E a0), (1, .int v10)] [] h11 _
    refine aw_iload_n (pc := 32) C dX10_tellsFamilies_32 rfl 1 rfl ?_
    refine aw_aload_n (pc := 33) C dX10_tellsFamilies_33 rfl 0 rfl ?_
    refine aw_getI (pc := 34) C fl_X10_143 dX10_tellsFamilies_34 (fun v14 ev14 => ?_)
    refine aw_icmp_ge (pc := 37) C 81 dX10_tellsFamilies_37 (by decide) (fun c98 => ?_) (fun c98 => ?_)
    · refine aw_iconst (pc := 81) (v := 0) C dX10_tellsFamilies_81 (by decide) ?_
      refine aw_istore_n (pc := 82) (L' := [(1, .int 0), (0, rf E a0)]) C dX10_tellsFamilies_82 rfl (by decide) rfl ?_
      refine aw_sub (L' := [(0, rf E a0), (1, .int 0)]) [1, 0] rfl ?_
      refine aw_loop (pc := 83) (σ := Int32 × Mem) (fun s => [(0, rf E a0), (1, .int s.1)]) (fun s => s.2) _ (fun k28 ih29 s => ?_) _ _
      obtain ⟨v26, h27⟩ := s
      show Aw K E _ _ _ _ _ 83 [(0, rf E a0), (1, .int v26)] [] h27 _
      refine aw_iload_n (pc := 83) C dX10_tellsFamilies_83 rfl 1 rfl ?_
      refine aw_aload_n (pc := 84) C dX10_tellsFamilies_84 rfl 0 rfl ?_
      refine aw_getI (pc := 85) C fl_X10_143 dX10_tellsFamilies_85 (fun v30 ev30 => ?_)
      refine aw_icmp_ge (pc := 88) C 252 dX10_tellsFamilies_88 (by decide) (fun c97 => ?_) (fun c97 => ?_)
      · refine aw_aload_n (pc := 252) C dX10_tellsFamilies_252 rfl 0 rfl ?_
        refine aw_iconst (pc := 253) (v := 0) C dX10_tellsFamilies_253 (by decide) ?_
        refine aw_putI (pc := 254) C fw_X10_171 rfl rfl dX10_tellsFamilies_254 (fun h74 eh74 => ?_)
        refine aw_iconst (pc := 257) (v := 0) C dX10_tellsFamilies_257 (by decide) ?_
        refine aw_istore_n (pc := 258) (L' := [(1, .int 0), (0, rf E a0)]) C dX10_tellsFamilies_258 rfl (by decide) rfl ?_
        refine aw_sub (L' := [(0, rf E a0), (1, .int 0)]) [1, 0] rfl ?_
        refine aw_loop (pc := 259) (σ := Int32 × Mem) (fun s => [(0, rf E a0), (1, .int s.1)]) (fun s => s.2) _ (fun k77 ih78 s => ?_) _ _
        obtain ⟨v75, h76⟩ := s
        show Aw K E _ _ _ _ _ 259 [(0, rf E a0), (1, .int v75)] [] h76 _
        refine aw_iload_n (pc := 259) C dX10_tellsFamilies_259 rfl 1 rfl ?_
        refine aw_aload_n (pc := 260) C dX10_tellsFamilies_260 rfl 0 rfl ?_
        refine aw_getI (pc := 261) C fl_X10_143 dX10_tellsFamilies_261 (fun v79 ev79 => ?_)
        refine aw_icmp_ge (pc := 264) C 322 dX10_tellsFamilies_264 (by decide) (fun c96 => ?_) (fun c96 => ?_)
        · exact aw_return (pc := 322) C hr hz0 rfl dX10_tellsFamilies_322
        refine aw_aload_n (pc := 267) C dX10_tellsFamilies_267 rfl 0 rfl ?_
        refine aw_getR (pc := 268) C fl_X10_50 dX10_tellsFamilies_268 (fun v80 ev80 => ?_)
        refine aw_iload_n (pc := 271) C dX10_tellsFamilies_271 rfl 1 rfl ?_
        refine aw_iaload (pc := 272) C dX10_tellsFamilies_272 (fun v81 ev81 => ?_)
        refine aw_iload_n (pc := 273) C dX10_tellsFamilies_273 rfl 1 rfl ?_
        refine aw_icmp_ne (pc := 274) C 300 dX10_tellsFamilies_274 (by decide) (fun c95 => ?_) (fun c95 => ?_)
        · refine aw_aload_n (pc := 277) C dX10_tellsFamilies_277 rfl 0 rfl ?_
          refine aw_getR (pc := 278) C fl_X10_53 dX10_tellsFamilies_278 (fun v82 ev82 => ?_)
          refine aw_iload_n (pc := 281) C dX10_tellsFamilies_281 rfl 1 rfl ?_
          refine aw_aload_n (pc := 282) C dX10_tellsFamilies_282 rfl 0 rfl ?_
          refine aw_getI (pc := 283) C fl_X10_171 dX10_tellsFamilies_283 (fun v83 ev83 => ?_)
          refine aw_iastore (pc := 286) C dX10_tellsFamilies_286 (fun h84 eh84 => ?_)
          refine aw_aload_n (pc := 287) C dX10_tellsFamilies_287 rfl 0 rfl ?_
          refine aw_dup (pc := 288) C rfl dX10_tellsFamilies_288 ?_
          refine aw_getI (pc := 289) C fl_X10_171 dX10_tellsFamilies_289 (fun v85 ev85 => ?_)
          refine aw_iconst (pc := 292) (v := 1) C dX10_tellsFamilies_292 (by decide) ?_
          refine aw_iadd (pc := 293) C dX10_tellsFamilies_293 ?_
          refine aw_putI (pc := 294) C fw_X10_171 rfl rfl dX10_tellsFamilies_294 (fun h86 eh86 => ?_)
          refine aw_goto (pc := 297) C 316 dX10_tellsFamilies_297 (by decide) ?_
          refine aw_iincN (pc := 316) (L1 := [(0, rf E a0)]) (k := 1) C dX10_tellsFamilies_316 1 rfl (by decide) (by decide) rfl (fun v87 ev87 => ?_)
          refine aw_goto (pc := 319) C 259 dX10_tellsFamilies_319 (by decide) ?_
          exact aw_sub (L' := [(0, rf E a0), (1, .int v87)]) [1, 0] rfl (ih78 (v87, h86))
        refine aw_aload_n (pc := 300) C dX10_tellsFamilies_300 rfl 0 rfl ?_
        refine aw_getR (pc := 301) C fl_X10_53 dX10_tellsFamilies_301 (fun v88 ev88 => ?_)
        refine aw_iload_n (pc := 304) C dX10_tellsFamilies_304 rfl 1 rfl ?_
        refine aw_aload_n (pc := 305) C dX10_tellsFamilies_305 rfl 0 rfl ?_
        refine aw_getR (pc := 306) C fl_X10_53 dX10_tellsFamilies_306 (fun v89 ev89 => ?_)
        refine aw_aload_n (pc := 309) C dX10_tellsFamilies_309 rfl 0 rfl ?_
        refine aw_iload_n (pc := 310) C dX10_tellsFamilies_310 rfl 1 rfl ?_
        refine aw_callVI (pc := 311) (R := rmX10_tellsFamilies) (c := 10) (As := [.int v75]) (rest := [rf E v89, .int v75, rf E v88]) (st := [.int v75, rf E a0, rf E v89, .int v75, rf E v88]) (c' := 0) (s' := 0) C hE rfl (by decide) cal_X10_leastOf ml_X10_153 rfl ⟨(Nat.le_of_ble_eq_true rfl), (Nat.le_of_ble_eq_true rfl)⟩ ⟨(Nat.le_of_ble_eq_true rfl), (Nat.le_of_ble_eq_true rfl)⟩ dX10_tellsFamilies_311 (okX10_leastOf E (kL K) a0 v75 h76) rfl (Nat.le_of_ble_eq_true rfl) rfl rfl (fun v91 h90 eh90 => ?_)
        refine aw_iaload (pc := 314) C dX10_tellsFamilies_314 (fun v92 ev92 => ?_)
        refine aw_iastore (pc := 315) C dX10_tellsFamilies_315 (fun h93 eh93 => ?_)
        refine aw_iincN (pc := 316) (L1 := [(0, rf E a0)]) (k := 1) C dX10_tellsFamilies_316 1 rfl (by decide) (by decide) rfl (fun v94 ev94 => ?_)
        refine aw_goto (pc := 319) C 259 dX10_tellsFamilies_319 (by decide) ?_
        exact aw_sub (L' := [(0, rf E a0), (1, .int v94)]) [1, 0] rfl (ih78 (v94, h93))
      refine aw_iconst (pc := 91) (v := 0) C dX10_tellsFamilies_91 (by decide) ?_
      refine aw_istore_n (pc := 92) (L' := [(2, .int 0), (0, rf E a0), (1, .int v26)]) C dX10_tellsFamilies_92 rfl (by decide) rfl ?_
      refine aw_sub (L' := [(0, rf E a0), (1, .int v26), (2, .int 0)]) [1, 2, 0] rfl ?_
      refine aw_loop (pc := 93) (σ := Int32 × Mem) (fun s => [(0, rf E a0), (1, .int v26), (2, .int s.1)]) (fun s => s.2) _ (fun k33 ih34 s => ?_) _ _
      obtain ⟨v31, h32⟩ := s
      show Aw K E _ _ _ _ _ 93 [(0, rf E a0), (1, .int v26), (2, .int v31)] [] h32 _
      refine aw_iload_n (pc := 93) C dX10_tellsFamilies_93 rfl 2 rfl ?_
      refine aw_aload_n (pc := 94) C dX10_tellsFamilies_94 rfl 0 rfl ?_
      refine aw_getI (pc := 95) C fl_X10_150 dX10_tellsFamilies_95 (fun v35 ev35 => ?_)
      refine aw_icmp_ge (pc := 98) C 246 dX10_tellsFamilies_98 (by decide) (fun c73 => ?_) (fun c73 => ?_)
      · refine aw_iincN (pc := 246) (L1 := [(0, rf E a0), (2, .int v31)]) (k := 1) C dX10_tellsFamilies_246 1 rfl (by decide) (by decide) rfl (fun v72 ev72 => ?_)
        refine aw_goto (pc := 249) C 83 dX10_tellsFamilies_249 (by decide) ?_
        exact aw_sub (L' := [(0, rf E a0), (1, .int v72)]) [1, 0] rfl (ih29 (v72, h32))
      refine aw_aload_n (pc := 101) C dX10_tellsFamilies_101 rfl 0 rfl ?_
      refine aw_getR (pc := 102) C fl_X10_44 dX10_tellsFamilies_102 (fun v36 ev36 => ?_)
      refine aw_iconst (pc := 105) (v := 4) C dX10_tellsFamilies_105 (by decide) ?_
      refine aw_iload_n (pc := 106) C dX10_tellsFamilies_106 rfl 2 rfl ?_
      refine aw_imul (pc := 107) C dX10_tellsFamilies_107 ?_
      refine aw_iaload (pc := 108) C dX10_tellsFamilies_108 (fun v37 ev37 => ?_)
      refine aw_aload_n (pc := 109) C dX10_tellsFamilies_109 rfl 0 rfl ?_
      refine aw_getR (pc := 110) C fl_X10_41 dX10_tellsFamilies_110 (fun v38 ev38 => ?_)
      refine aw_iconst (pc := 113) (v := 2) C dX10_tellsFamilies_113 (by decide) ?_
      refine aw_iload_n (pc := 114) C dX10_tellsFamilies_114 rfl 1 rfl ?_
      refine aw_imul (pc := 115) C dX10_tellsFamilies_115 ?_
      refine aw_iaload (pc := 116) C dX10_tellsFamilies_116 (fun v39 ev39 => ?_)
      refine aw_imul (pc := 117) C dX10_tellsFamilies_117 ?_
      refine aw_aload_n (pc := 118) C dX10_tellsFamilies_118 rfl 0 rfl ?_
      refine aw_getR (pc := 119) C fl_X10_44 dX10_tellsFamilies_119 (fun v40 ev40 => ?_)
      refine aw_iconst (pc := 122) (v := 4) C dX10_tellsFamilies_122 (by decide) ?_
      refine aw_iload_n (pc := 123) C dX10_tellsFamilies_123 rfl 2 rfl ?_
      refine aw_imul (pc := 124) C dX10_tellsFamilies_124 ?_
      refine aw_iconst (pc := 125) (v := 1) C dX10_tellsFamilies_125 (by decide) ?_
      refine aw_iadd (pc := 126) C dX10_tellsFamilies_126 ?_
      refine aw_iaload (pc := 127) C dX10_tellsFamilies_127 (fun v41 ev41 => ?_)
      refine aw_aload_n (pc := 128) C dX10_tellsFamilies_128 rfl 0 rfl ?_
      refine aw_getR (pc := 129) C fl_X10_41 dX10_tellsFamilies_129 (fun v42 ev42 => ?_)
      refine aw_iconst (pc := 132) (v := 2) C dX10_tellsFamilies_132 (by decide) ?_
      refine aw_iload_n (pc := 133) C dX10_tellsFamilies_133 rfl 1 rfl ?_
      refine aw_imul (pc := 134) C dX10_tellsFamilies_134 ?_
      refine aw_iconst (pc := 135) (v := 1) C dX10_tellsFamilies_135 (by decide) ?_
      refine aw_iadd (pc := 136) C dX10_tellsFamilies_136 ?_
      refine aw_iaload (pc := 137) C dX10_tellsFamilies_137 (fun v43 ev43 => ?_)
      refine aw_imul (pc := 138) C dX10_tellsFamilies_138 ?_
      refine aw_iadd (pc := 139) C dX10_tellsFamilies_139 ?_
      refine aw_nmI (pc := 140) (fun v44 ev44 => ?_)
      refine aw_istore_n (pc := 140) (L' := [(3, .int v44), (0, rf E a0), (1, .int v26), (2, .int v31)]) C dX10_tellsFamilies_140 rfl (by decide) rfl ?_
      refine aw_aload_n (pc := 141) C dX10_tellsFamilies_141 rfl 1 rfl ?_
      refine aw_getR (pc := 142) C fl_X10_44 dX10_tellsFamilies_142 (fun v45 ev45 => ?_)
      refine aw_iconst (pc := 145) (v := 4) C dX10_tellsFamilies_145 (by decide) ?_
      refine aw_iload_n (pc := 146) C dX10_tellsFamilies_146 rfl 3 rfl ?_
      refine aw_imul (pc := 147) C dX10_tellsFamilies_147 ?_
      refine aw_iconst (pc := 148) (v := 2) C dX10_tellsFamilies_148 (by decide) ?_
      refine aw_iadd (pc := 149) C dX10_tellsFamilies_149 ?_
      refine aw_iaload (pc := 150) C dX10_tellsFamilies_150 (fun v46 ev46 => ?_)
      refine aw_aload_n (pc := 151) C dX10_tellsFamilies_151 rfl 1 rfl ?_
      refine aw_getR (pc := 152) C fl_X10_41 dX10_tellsFamilies_152 (fun v47 ev47 => ?_)
      refine aw_iconst (pc := 155) (v := 2) C dX10_tellsFamilies_155 (by decide) ?_
      refine aw_iload_n (pc := 156) C dX10_tellsFamilies_156 rfl 2 rfl ?_
      refine aw_imul (pc := 157) C dX10_tellsFamilies_157 ?_
      refine aw_iaload (pc := 158) C dX10_tellsFamilies_158 (fun v48 ev48 => ?_)
      refine aw_imul (pc := 159) C dX10_tellsFamilies_159 ?_
      refine aw_aload_n (pc := 160) C dX10_tellsFamilies_160 rfl 1 rfl ?_
      refine aw_getR (pc := 161) C fl_X10_44 dX10_tellsFamilies_161 (fun v49 ev49 => ?_)
      refine aw_iconst (pc := 164) (v := 4) C dX10_tellsFamilies_164 (by decide) ?_
      refine aw_iload_n (pc := 165) C dX10_tellsFamilies_165 rfl 3 rfl ?_
      refine aw_imul (pc := 166) C dX10_tellsFamilies_166 ?_
      refine aw_iconst (pc := 167) (v := 3) C dX10_tellsFamilies_167 (by decide) ?_
      refine aw_iadd (pc := 168) C dX10_tellsFamilies_168 ?_
      refine aw_iaload (pc := 169) C dX10_tellsFamilies_169 (fun v50 ev50 => ?_)
      refine aw_aload_n (pc := 170) C dX10_tellsFamilies_170 rfl 1 rfl ?_
      refine aw_getR (pc := 171) C fl_X10_41 dX10_tellsFamilies_171 (fun v51 ev51 => ?_)
      refine aw_iconst (pc := 174) (v := 2) C dX10_tellsFamilies_174 (by decide) ?_
      refine aw_iload_n (pc := 175) C dX10_tellsFamilies_175 rfl 2 rfl ?_
      refine aw_imul (pc := 176) C dX10_tellsFamilies_176 ?_
      refine aw_iconst (pc := 177) (v := 1) C dX10_tellsFamilies_177 (by decide) ?_
      refine aw_iadd (pc := 178) C dX10_tellsFamilies_178 ?_
      refine aw_iaload (pc := 179) C dX10_tellsFamilies_179 (fun v52 ev52 => ?_)
      refine aw_imul (pc := 180) C dX10_tellsFamilies_180 ?_
      refine aw_iadd (pc := 181) C dX10_tellsFamilies_181 ?_
      refine aw_nmI (pc := 182) (fun v53 ev53 => ?_)
      refine aw_istore (pc := 182) (L' := [(4, .int v53), (3, .int v44), (0, rf E a0), (1, .int v26), (2, .int v31)]) C dX10_tellsFamilies_182 (by decide) rfl ?_
      refine aw_iload_n (pc := 184) C dX10_tellsFamilies_184 rfl 1 rfl ?_
      refine aw_i2l (pc := 185) C dX10_tellsFamilies_185 ?_
      refine aw_aload_n (pc := 186) C dX10_tellsFamilies_186 rfl 2 rfl ?_
      refine aw_getI (pc := 187) C fl_X10_22 dX10_tellsFamilies_187 (fun v54 ev54 => ?_)
      refine aw_ineg (pc := 190) C dX10_tellsFamilies_190 ?_
      refine aw_i2l (pc := 191) C dX10_tellsFamilies_191 ?_
      refine aw_aload_n (pc := 192) C dX10_tellsFamilies_192 rfl 2 rfl ?_
      refine aw_getI (pc := 193) C fl_X10_22 dX10_tellsFamilies_193 (fun v55 ev55 => ?_)
      refine aw_i2l (pc := 196) C dX10_tellsFamilies_196 ?_
      refine aw_callSI (pc := 197) (R := rmX10_tellsFamilies) (As := [.long v44.toInt64, .long ((-v54).toInt64), .long v55.toInt64]) (rest := []) (st := [.long v55.toInt64, .long ((-v54).toInt64), .long v44.toInt64]) (c' := 0) (s' := 0) C hE cal_X10_in ml_X10_96 rfl ⟨(Nat.le_of_ble_eq_true rfl), (Nat.le_of_ble_eq_true rfl)⟩ ⟨(Nat.le_of_ble_eq_true rfl), (Nat.le_of_ble_eq_true rfl)⟩ dX10_tellsFamilies_197 (okX10_in E (kL K) v44.toInt64 ((-v54).toInt64) v55.toInt64 h32) rfl (Nat.le_of_ble_eq_true rfl) rfl rfl (fun v57 h56 eh56 => ?_)
      refine aw_if_eq (pc := 200) C 240 dX10_tellsFamilies_200 (by decide) (fun c71 => ?_) (fun c71 => ?_)
      · refine aw_iincN (pc := 240) (L1 := [(4, .int v53), (3, .int v44), (0, rf E a0), (1, .int v26)]) (k := 1) C dX10_tellsFamilies_240 4 rfl (by decide) (by decide) rfl (fun v70 ev70 => ?_)
        refine aw_goto (pc := 243) C 93 dX10_tellsFamilies_243 (by decide) ?_
        exact aw_sub (L' := [(0, rf E a0), (1, .int v26), (2, .int v70)]) [3, 4, 0] rfl (ih34 (v70, h56))
      refine aw_iload (pc := 203) C dX10_tellsFamilies_203 0 rfl ?_
      refine aw_i2l (pc := 205) C dX10_tellsFamilies_205 ?_
      refine aw_aload_n (pc := 206) C dX10_tellsFamilies_206 rfl 2 rfl ?_
      refine aw_getI (pc := 207) C fl_X10_22 dX10_tellsFamilies_207 (fun v58 ev58 => ?_)
      refine aw_ineg (pc := 210) C dX10_tellsFamilies_210 ?_
      refine aw_i2l (pc := 211) C dX10_tellsFamilies_211 ?_
      refine aw_aload_n (pc := 212) C dX10_tellsFamilies_212 rfl 2 rfl ?_
      refine aw_getI (pc := 213) C fl_X10_22 dX10_tellsFamilies_213 (fun v59 ev59 => ?_)
      refine aw_i2l (pc := 216) C dX10_tellsFamilies_216 ?_
      refine aw_callSI (pc := 217) (R := rmX10_tellsFamilies) (As := [.long v53.toInt64, .long ((-v58).toInt64), .long v59.toInt64]) (rest := []) (st := [.long v59.toInt64, .long ((-v58).toInt64), .long v53.toInt64]) (c' := 0) (s' := 0) C hE cal_X10_in ml_X10_96 rfl ⟨(Nat.le_of_ble_eq_true rfl), (Nat.le_of_ble_eq_true rfl)⟩ ⟨(Nat.le_of_ble_eq_true rfl), (Nat.le_of_ble_eq_true rfl)⟩ dX10_tellsFamilies_217 (okX10_in E (kL K) v53.toInt64 ((-v58).toInt64) v59.toInt64 h56) rfl (Nat.le_of_ble_eq_true rfl) rfl rfl (fun v61 h60 eh60 => ?_)
      refine aw_if_eq (pc := 220) C 240 dX10_tellsFamilies_220 (by decide) (fun c69 => ?_) (fun c69 => ?_)
      · refine aw_iincN (pc := 240) (L1 := [(4, .int v53), (3, .int v44), (0, rf E a0), (1, .int v26)]) (k := 1) C dX10_tellsFamilies_240 4 rfl (by decide) (by decide) rfl (fun v68 ev68 => ?_)
        refine aw_goto (pc := 243) C 93 dX10_tellsFamilies_243 (by decide) ?_
        exact aw_sub (L' := [(0, rf E a0), (1, .int v26), (2, .int v68)]) [3, 4, 0] rfl (ih34 (v68, h60))
      refine aw_aload_n (pc := 223) C dX10_tellsFamilies_223 rfl 2 rfl ?_
      refine aw_iload_n (pc := 224) C dX10_tellsFamilies_224 rfl 3 rfl ?_
      refine aw_aload_n (pc := 225) C dX10_tellsFamilies_225 rfl 2 rfl ?_
      refine aw_getR (pc := 226) C fl_X10_47 dX10_tellsFamilies_226 (fun v62 ev62 => ?_)
      refine aw_aload_n (pc := 229) C dX10_tellsFamilies_229 rfl 2 rfl ?_
      refine aw_iload_n (pc := 230) C dX10_tellsFamilies_230 rfl 1 rfl ?_
      refine aw_iload (pc := 231) C dX10_tellsFamilies_231 0 rfl ?_
      refine aw_callVI (pc := 233) (R := rmX10_tellsFamilies) (c := 10) (As := [.int v44, .int v53]) (rest := [rf E v62, .int v26, rf E a0]) (st := [.int v53, .int v44, rf E a0, rf E v62, .int v26, rf E a0]) (c' := 0) (s' := 0) C hE rfl (by decide) cal_X10_cell ml_X10_163 rfl ⟨(Nat.le_of_ble_eq_true rfl), (Nat.le_of_ble_eq_true rfl)⟩ ⟨(Nat.le_of_ble_eq_true rfl), (Nat.le_of_ble_eq_true rfl)⟩ dX10_tellsFamilies_233 (okX10_cell E (kL K) a0 v44 v53 h60) rfl (Nat.le_of_ble_eq_true rfl) rfl rfl (fun v64 h63 eh63 => ?_)
      refine aw_iaload (pc := 236) C dX10_tellsFamilies_236 (fun v65 ev65 => ?_)
      refine aw_callVV (pc := 237) (R := rmX10_tellsFamilies) (c := 10) (As := [.int v26, .int v65]) (rest := []) (st := [.int v65, .int v26, rf E a0]) (c' := 0) (s' := 0) C hE rfl (by decide) cal_X10_links ml_X10_167 rfl ⟨(Nat.le_of_ble_eq_true rfl), (Nat.le_of_ble_eq_true rfl)⟩ ⟨(Nat.le_of_ble_eq_true rfl), (Nat.le_of_ble_eq_true rfl)⟩ dX10_tellsFamilies_237 (okX10_links E (kL K) a0 v26 v65 h63) rfl (Nat.le_of_ble_eq_true rfl) rfl rfl (fun _u h66 eh66 => ?_)
      refine aw_iincN (pc := 240) (L1 := [(4, .int v53), (3, .int v44), (0, rf E a0), (1, .int v26)]) (k := 1) C dX10_tellsFamilies_240 4 rfl (by decide) (by decide) rfl (fun v67 ev67 => ?_)
      refine aw_goto (pc := 243) C 93 dX10_tellsFamilies_243 (by decide) ?_
      exact aw_sub (L' := [(0, rf E a0), (1, .int v26), (2, .int v67)]) [3, 4, 0] rfl (ih34 (v67, h66))
    refine aw_aload_n (pc := 40) C dX10_tellsFamilies_40 rfl 0 rfl ?_
    refine aw_getR (pc := 41) C fl_X10_47 dX10_tellsFamilies_41 (fun v15 ev15 => ?_)
    refine aw_aload_n (pc := 44) C dX10_tellsFamilies_44 rfl 0 rfl ?_
    refine aw_aload_n (pc := 45) C dX10_tellsFamilies_45 rfl 0 rfl ?_
    refine aw_getR (pc := 46) C fl_X10_41 dX10_tellsFamilies_46 (fun v16 ev16 => ?_)
    refine aw_iconst (pc := 49) (v := 2) C dX10_tellsFamilies_49 (by decide) ?_
    refine aw_iload_n (pc := 50) C dX10_tellsFamilies_50 rfl 1 rfl ?_
    refine aw_imul (pc := 51) C dX10_tellsFamilies_51 ?_
    refine aw_iaload (pc := 52) C dX10_tellsFamilies_52 (fun v17 ev17 => ?_)
    refine aw_aload_n (pc := 53) C dX10_tellsFamilies_53 rfl 0 rfl ?_
    refine aw_getR (pc := 54) C fl_X10_41 dX10_tellsFamilies_54 (fun v18 ev18 => ?_)
    refine aw_iconst (pc := 57) (v := 2) C dX10_tellsFamilies_57 (by decide) ?_
    refine aw_iload_n (pc := 58) C dX10_tellsFamilies_58 rfl 1 rfl ?_
    refine aw_imul (pc := 59) C dX10_tellsFamilies_59 ?_
    refine aw_iconst (pc := 60) (v := 1) C dX10_tellsFamilies_60 (by decide) ?_
    refine aw_iadd (pc := 61) C dX10_tellsFamilies_61 ?_
    refine aw_iaload (pc := 62) C dX10_tellsFamilies_62 (fun v19 ev19 => ?_)
    refine aw_callVI (pc := 63) (R := rmX10_tellsFamilies) (c := 10) (As := [.int v17, .int v19]) (rest := [rf E v15]) (st := [.int v19, .int v17, rf E a0, rf E v15]) (c' := 0) (s' := 0) C hE rfl (by decide) cal_X10_cell ml_X10_163 rfl ⟨(Nat.le_of_ble_eq_true rfl), (Nat.le_of_ble_eq_true rfl)⟩ ⟨(Nat.le_of_ble_eq_true rfl), (Nat.le_of_ble_eq_true rfl)⟩ dX10_tellsFamilies_63 (okX10_cell E (kL K) a0 v17 v19 h11) rfl (Nat.le_of_ble_eq_true rfl) rfl rfl (fun v21 h20 eh20 => ?_)
    refine aw_iload_n (pc := 66) C dX10_tellsFamilies_66 rfl 1 rfl ?_
    refine aw_iastore (pc := 67) C dX10_tellsFamilies_67 (fun h22 eh22 => ?_)
    refine aw_aload_n (pc := 68) C dX10_tellsFamilies_68 rfl 0 rfl ?_
    refine aw_getR (pc := 69) C fl_X10_50 dX10_tellsFamilies_69 (fun v23 ev23 => ?_)
    refine aw_iload_n (pc := 72) C dX10_tellsFamilies_72 rfl 1 rfl ?_
    refine aw_iload_n (pc := 73) C dX10_tellsFamilies_73 rfl 1 rfl ?_
    refine aw_iastore (pc := 74) C dX10_tellsFamilies_74 (fun h24 eh24 => ?_)
    refine aw_iincN (pc := 75) (L1 := [(0, rf E a0)]) (k := 1) C dX10_tellsFamilies_75 1 rfl (by decide) (by decide) rfl (fun v25 ev25 => ?_)
    refine aw_goto (pc := 78) C 32 dX10_tellsFamilies_78 (by decide) ?_
    exact aw_sub (L' := [(0, rf E a0), (1, .int v25)]) [1, 0] rfl (ih13 (v25, h24))
  refine aw_aload_n (pc := 17) C dX10_tellsFamilies_17 rfl 0 rfl ?_
  refine aw_getR (pc := 18) C fl_X10_47 dX10_tellsFamilies_18 (fun v7 ev7 => ?_)
  refine aw_iload_n (pc := 21) C dX10_tellsFamilies_21 rfl 1 rfl ?_
  refine aw_iconst (pc := 22) (v := (-1)) C dX10_tellsFamilies_22 (by decide) ?_
  refine aw_iastore (pc := 23) C dX10_tellsFamilies_23 (fun h8 eh8 => ?_)
  refine aw_iincN (pc := 24) (L1 := [(0, rf E a0)]) (k := 1) C dX10_tellsFamilies_24 1 rfl (by decide) (by decide) rfl (fun v9 ev9 => ?_)
  refine aw_goto (pc := 27) C 10 dX10_tellsFamilies_27 (by decide) ?_
  exact aw_sub (L' := [(0, rf E a0), (1, .int v9)]) [1, 0] rfl (ih6 (v9, h8))
def rmX10_rowAt : Room := { frames := 0, cells := 0, slots := 0, locals := 0 }
set_option maxHeartbeats 4000000 in
set_option maxRecDepth 100000 in
theorem okX10_rowAt (E : Ev) (l : Launch) (a0 : Nat) (a1 : Int64) (h0 : Mem) : AMet E l yX10_rowAt cX10_rowAt 6 (some (.long)) rmX10_rowAt [rf E a0, .long a1] h0 rvJ (fX10_rowAt a0 a1 h0) := by
  refine am_intro (plainFor_of_name (by decide +kernel)) (Nat.le_of_ble_eq_true rfl) (fun K hKl C hr hnm hz0 => ?_)
  replace C : CxOK K E RX10 cX10_rowAt 6 := C
  have hE : E.1 + 1 ≤ (kS K).heap.size := by omega
  unfold fX10_rowAt
  show Aw K E _ _ _ _ _ 0 [(0, rf E a0), (1, .long a1)] [] h0 _
  refine aw_lconst (pc := 0) (v := 0) C dX10_rowAt_0 (by decide) ?_
  refine aw_lstore_n (pc := 1) (L' := [(3, .long 0), (0, rf E a0), (1, .long a1)]) C dX10_rowAt_1 rfl (by decide) rfl ?_
  refine aw_iconst (pc := 2) (v := 0) C dX10_rowAt_2 (by decide) ?_
  refine aw_istore (pc := 3) (L' := [(5, .int 0), (3, .long 0), (0, rf E a0), (1, .long a1)]) C dX10_rowAt_3 (by decide) rfl ?_
  refine aw_sub (L' := [(0, rf E a0), (1, .long a1), (3, .long 0), (5, .int 0)]) [2, 3, 1, 0] rfl ?_
  refine aw_loop (pc := 5) (σ := Int64 × Int32) (fun s => [(0, rf E a0), (1, .long a1), (3, .long s.1), (5, .int s.2)]) (fun s => h0) _ (fun k3 ih4 s => ?_) _ _
  obtain ⟨v1, v2⟩ := s
  show Aw K E _ _ _ _ _ 5 [(0, rf E a0), (1, .long a1), (3, .long v1), (5, .int v2)] [] h0 _
  refine aw_iload (pc := 5) C dX10_rowAt_5 3 rfl ?_
  refine aw_aload_n (pc := 7) C dX10_rowAt_7 rfl 0 rfl ?_
  refine aw_getI (pc := 8) C fl_X10_9 dX10_rowAt_8 (fun v5 ev5 => ?_)
  refine aw_icmp_gt (pc := 11) C 32 dX10_rowAt_11 (by decide) (fun c10 => ?_) (fun c10 => ?_)
  · refine aw_lload_n (pc := 32) C dX10_rowAt_32 rfl 2 rfl ?_
    exact aw_lreturn (pc := 33) C hr hz0 rfl dX10_rowAt_33
  refine aw_lload_n (pc := 14) C dX10_rowAt_14 rfl 2 rfl ?_
  refine aw_lload_n (pc := 15) C dX10_rowAt_15 rfl 1 rfl ?_
  refine aw_lmul (pc := 16) C dX10_rowAt_16 ?_
  refine aw_aload_n (pc := 17) C dX10_rowAt_17 rfl 0 rfl ?_
  refine aw_getR (pc := 18) C fl_X10_63 dX10_rowAt_18 (fun v6 ev6 => ?_)
  refine aw_iload (pc := 21) C dX10_rowAt_21 3 rfl ?_
  refine aw_laload (pc := 23) C dX10_rowAt_23 (fun v7 ev7 => ?_)
  refine aw_ladd (pc := 24) C dX10_rowAt_24 ?_
  refine aw_nmJ (pc := 25) (fun v8 ev8 => ?_)
  refine aw_lstore_n (pc := 25) (L' := [(3, .long v8), (0, rf E a0), (1, .long a1), (5, .int v2)]) C dX10_rowAt_25 rfl (by decide) rfl ?_
  refine aw_iincN (pc := 26) (L1 := [(3, .long v8), (0, rf E a0), (1, .long a1)]) (k := 1) C dX10_rowAt_26 3 rfl (by decide) (by decide) rfl (fun v9 ev9 => ?_)
  refine aw_goto (pc := 29) C 5 dX10_rowAt_29 (by decide) ?_
  exact aw_sub (L' := [(0, rf E a0), (1, .long a1), (3, .long v8), (5, .int v9)]) [2, 3, 1, 0] rfl (ih4 (v8, v9))
def rmX10_greatest : Room := { frames := 1, cells := 0, slots := 0, locals := 25 }
set_option maxHeartbeats 4000000 in
set_option maxRecDepth 100000 in
theorem okX10_greatest (E : Ev) (l : Launch) (a0 : Nat) (a1 : Int32) (h0 : Mem) : AMet E l yX10_greatest cX10_greatest 7 (some (.int)) rmX10_greatest [rf E a0, .int a1] h0 rvI (fX10_greatest a0 a1 h0) := by
  refine am_intro (plainFor_of_name (by decide +kernel)) (Nat.le_of_ble_eq_true rfl) (fun K hKl C hr hnm hz0 => ?_)
  replace C : CxOK K E RX10 cX10_greatest 7 := C
  have hE : E.1 + 1 ≤ (kS K).heap.size := by omega
  unfold fX10_greatest
  show Aw K E _ _ _ _ _ 0 [(0, rf E a0), (1, .int a1)] [] h0 _
  refine aw_bipush (pc := 0) (v := 99) C dX10_greatest_0 (by decide) ?_
  refine aw_istore_n (pc := 2) (L' := [(2, .int 99), (0, rf E a0), (1, .int a1)]) C dX10_greatest_2 rfl (by decide) rfl ?_
  refine aw_sub (L' := [(0, rf E a0), (1, .int a1), (2, .int 99)]) [1, 2, 0] rfl ?_
  refine aw_loop (pc := 3) (σ := Int32 × Mem) (fun s => [(0, rf E a0), (1, .int a1), (2, .int s.1)]) (fun s => s.2) _ (fun k3 ih4 s => ?_) _ _
  obtain ⟨v1, h2⟩ := s
  show Aw K E _ _ _ _ _ 3 [(0, rf E a0), (1, .int a1), (2, .int v1)] [] h2 _
  refine aw_iload_n (pc := 3) C dX10_greatest_3 rfl 2 rfl ?_
  refine aw_iload_n (pc := 4) C dX10_greatest_4 rfl 1 rfl ?_
  refine aw_icmp_lt (pc := 5) C 65 dX10_greatest_5 (by decide) (fun c18 => ?_) (fun c18 => ?_)
  · refine aw_iconst (pc := 65) (v := (-1)) C dX10_greatest_65 (by decide) ?_
    exact aw_ireturn (pc := 66) C hr rfl hz0 rfl dX10_greatest_66
  refine aw_aload_n (pc := 8) C dX10_greatest_8 rfl 0 rfl ?_
  refine aw_iload_n (pc := 9) C dX10_greatest_9 rfl 2 rfl ?_
  refine aw_i2l (pc := 10) C dX10_greatest_10 ?_
  refine aw_callVJ (pc := 11) (R := rmX10_greatest) (c := 10) (As := [.long v1.toInt64]) (rest := []) (st := [.long v1.toInt64, rf E a0]) (c' := 0) (s' := 0) C hE rfl (by decide) cal_X10_rowAt ml_X10_186 rfl ⟨(Nat.le_of_ble_eq_true rfl), (Nat.le_of_ble_eq_true rfl)⟩ ⟨(Nat.le_of_ble_eq_true rfl), (Nat.le_of_ble_eq_true rfl)⟩ dX10_greatest_11 (okX10_rowAt E (kL K) a0 v1.toInt64 h2) rfl (Nat.le_of_ble_eq_true rfl) rfl rfl (fun v6 h5 eh5 => ?_)
  refine aw_lstore_n (pc := 14) (L' := [(3, .long v6), (0, rf E a0), (1, .int a1), (2, .int v1)]) C dX10_greatest_14 rfl (by decide) rfl ?_
  refine aw_aload_n (pc := 15) C dX10_greatest_15 rfl 1 rfl ?_
  refine aw_iload_n (pc := 16) C dX10_greatest_16 rfl 3 rfl ?_
  refine aw_iconst (pc := 17) (v := 1) C dX10_greatest_17 (by decide) ?_
  refine aw_iadd (pc := 18) C dX10_greatest_18 ?_
  refine aw_i2l (pc := 19) C dX10_greatest_19 ?_
  refine aw_callVJ (pc := 20) (R := rmX10_greatest) (c := 10) (As := [.long ((v1 + 1).toInt64)]) (rest := []) (st := [.long ((v1 + 1).toInt64), rf E a0]) (c' := 0) (s' := 0) C hE rfl (by decide) cal_X10_rowAt ml_X10_186 rfl ⟨(Nat.le_of_ble_eq_true rfl), (Nat.le_of_ble_eq_true rfl)⟩ ⟨(Nat.le_of_ble_eq_true rfl), (Nat.le_of_ble_eq_true rfl)⟩ dX10_greatest_20 (okX10_rowAt E (kL K) a0 ((v1 + 1).toInt64) h5) rfl (Nat.le_of_ble_eq_true rfl) rfl rfl (fun v8 h7 eh7 => ?_)
  refine aw_lstore (pc := 23) (L' := [(5, .long v8), (3, .long v6), (0, rf E a0), (1, .int a1), (2, .int v1)]) C dX10_greatest_23 (by decide) rfl ?_
  refine aw_lload_n (pc := 25) C dX10_greatest_25 rfl 1 rfl ?_
  refine aw_lconst (pc := 26) (v := 0) C dX10_greatest_26 (by decide) ?_
  refine aw_lcmp (pc := 27) C dX10_greatest_27 ?_
  refine aw_if_eq (pc := 28) C 57 dX10_greatest_28 (by decide) (fun c17 => ?_) (fun c17 => ?_)
  · refine aw_iload_n (pc := 57) C dX10_greatest_57 rfl 4 rfl ?_
    exact aw_ireturn (pc := 58) C hr rfl hz0 rfl dX10_greatest_58
  refine aw_lload_n (pc := 31) C dX10_greatest_31 rfl 1 rfl ?_
  refine aw_lconst (pc := 32) (v := 0) C dX10_greatest_32 (by decide) ?_
  refine aw_lcmp (pc := 33) C dX10_greatest_33 ?_
  refine aw_jn (σ := Unit) 44 (fun s => [(0, rf E a0), (1, .int a1), (2, .int v1), (3, .long v6), (5, .long v8)]) (fun s => []) (fun s => h7) (fun s => ?_) (fun k9 jk10 => ?_)
  · show Aw K E _ _ _ _ _ 44 [(0, rf E a0), (1, .int a1), (2, .int v1), (3, .long v6), (5, .long v8)] [] h7 _
    refine aw_lload_n (pc := 44) C dX10_greatest_44 rfl 3 rfl ?_
    refine aw_lconst (pc := 45) (v := 0) C dX10_greatest_45 (by decide) ?_
    refine aw_lcmp (pc := 46) C dX10_greatest_46 ?_
    refine aw_if_ge (pc := 47) C 59 dX10_greatest_47 (by decide) (fun c14 => ?_) (fun c14 => ?_)
    · refine aw_iincN (pc := 59) (L1 := [(0, rf E a0), (1, .int a1), (3, .long v6), (5, .long v8)]) (k := (-1)) C dX10_greatest_59 2 rfl (by decide) (by decide) rfl (fun v13 ev13 => ?_)
      refine aw_goto (pc := 62) C 3 dX10_greatest_62 (by decide) ?_
      exact aw_sub (L' := [(0, rf E a0), (1, .int a1), (2, .int v13)]) [1, 2, 0] rfl (ih4 (v13, h7))
    refine aw_lload (pc := 50) C dX10_greatest_50 4 rfl ?_
    refine aw_lconst (pc := 52) (v := 0) C dX10_greatest_52 (by decide) ?_
    refine aw_lcmp (pc := 53) C dX10_greatest_53 ?_
    refine aw_if_le (pc := 54) C 59 dX10_greatest_54 (by decide) (fun c12 => ?_) (fun c12 => ?_)
    · refine aw_iincN (pc := 59) (L1 := [(0, rf E a0), (1, .int a1), (3, .long v6), (5, .long v8)]) (k := (-1)) C dX10_greatest_59 2 rfl (by decide) (by decide) rfl (fun v11 ev11 => ?_)
      refine aw_goto (pc := 62) C 3 dX10_greatest_62 (by decide) ?_
      exact aw_sub (L' := [(0, rf E a0), (1, .int a1), (2, .int v11)]) [1, 2, 0] rfl (ih4 (v11, h7))
    refine aw_iload_n (pc := 57) C dX10_greatest_57 rfl 2 rfl ?_
    exact aw_ireturn (pc := 58) C hr rfl hz0 rfl dX10_greatest_58
  refine aw_if_le (pc := 34) C 44 dX10_greatest_34 (by decide) (fun c16 => ?_) (fun c16 => ?_)
  · exact aw_sub (L' := [(0, rf E a0), (1, .int a1), (2, .int v1), (3, .long v6), (5, .long v8)]) [2, 3, 4, 1, 0] rfl (jk10 ())
  refine aw_lload (pc := 37) C dX10_greatest_37 0 rfl ?_
  refine aw_lconst (pc := 39) (v := 0) C dX10_greatest_39 (by decide) ?_
  refine aw_lcmp (pc := 40) C dX10_greatest_40 ?_
  refine aw_if_lt (pc := 41) C 57 dX10_greatest_41 (by decide) (fun c15 => ?_) (fun c15 => ?_)
  · refine aw_iload_n (pc := 57) C dX10_greatest_57 rfl 4 rfl ?_
    exact aw_ireturn (pc := 58) C hr rfl hz0 rfl dX10_greatest_58
  exact aw_sub (L' := [(0, rf E a0), (1, .int a1), (2, .int v1), (3, .long v6), (5, .long v8)]) [2, 3, 4, 1, 0] rfl (jk10 ())
