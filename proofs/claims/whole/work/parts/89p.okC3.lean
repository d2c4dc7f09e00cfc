def rmX0_setLabel : Room := { frames := 0, cells := 0, slots := 0, locals := 0 }
set_option maxHeartbeats 4000000 in
set_option maxRecDepth 100000 in
theorem okX0_setLabel (E : Ev) (l : Launch) (a0 : Nat) (a1 : Int32) (a2 : Int32) (h0 : Mem) : AMet E l yX0_setLabel cX0_setLabel 3 none rmX0_setLabel [rf E a0, .int a1, .int a2] h0 rvV (fX0_setLabel a0 a1 a2 h0) := by
  refine am_intro (plainFor_of_name (by decide +kernel)) (Nat.le_of_ble_eq_true rfl) (fun K hKl C hr hnm hz0 => ?_)
  replace C : CxOK K E RX0 cX0_setLabel 3 := C
  have hE : E.1 + 1 ≤ (kS K).heap.size := by omega
  unfold fX0_setLabel
  show Aw K E _ _ _ _ _ 0 [(0, rf E a0), (1, .int a1), (2, .int a2)] [] h0 _
  refine aw_iload_n (pc := 0) C dX0_setLabel_0 rfl 1 rfl ?_
  refine aw_if_lt (pc := 1) C 20 dX0_setLabel_1 (by decide) (fun c6 => ?_) (fun c6 => ?_)
  · exact aw_return (pc := 20) C hr hz0 rfl dX0_setLabel_20
  refine aw_iload_n (pc := 4) C dX0_setLabel_4 rfl 1 rfl ?_
  refine aw_aload_n (pc := 5) C dX0_setLabel_5 rfl 0 rfl ?_
  refine aw_getR (pc := 6) C fl_X0_32 dX0_setLabel_6 (fun v1 ev1 => ?_)
  refine aw_arraylength (pc := 9) C dX0_setLabel_9 (fun v2 ev2 => ?_)
  refine aw_icmp_ge (pc := 10) C 20 dX0_setLabel_10 (by decide) (fun c5 => ?_) (fun c5 => ?_)
  · exact aw_return (pc := 20) C hr hz0 rfl dX0_setLabel_20
  refine aw_aload_n (pc := 13) C dX0_setLabel_13 rfl 0 rfl ?_
  refine aw_getR (pc := 14) C fl_X0_32 dX0_setLabel_14 (fun v3 ev3 => ?_)
  refine aw_iload_n (pc := 17) C dX0_setLabel_17 rfl 1 rfl ?_
  refine aw_iload_n (pc := 18) C dX0_setLabel_18 rfl 2 rfl ?_
  refine aw_iastore (pc := 19) C dX0_setLabel_19 (fun h4 eh4 => ?_)
  exact aw_return (pc := 20) C hr hz0 rfl dX0_setLabel_20
def rmX0_look : Room := { frames := 3, cells := 0, slots := 0, locals := 122 }
set_option maxHeartbeats 4000000 in
set_option maxRecDepth 100000 in
theorem okX0_look (E : Ev) (l : Launch) (a0 : Nat) (a1 : Nat) (h0 : Mem) : AMet E l yX0_look cX0_look 4 none rmX0_look [rf E a0, rf E a1] h0 rvV (fX0_look a0 a1 h0) := by
  refine am_intro (plainFor_of_name (by decide +kernel)) (Nat.le_of_ble_eq_true rfl) (fun K hKl C hr hnm hz0 => ?_)
  replace C : CxOK K E RX0 cX0_look 4 := C
  have hE : E.1 + 1 ≤ (kS K).heap.size := by omega
  unfold fX0_look
  show Aw K E _ _ _ _ _ 0 [(0, rf E a0), (1, rf E a1)] [] h0 _
  refine aw_aload_n (pc := 0) C dX0_look_0 rfl 0 rfl ?_
  refine aw_getI (pc := 1) C fl_X0_18 dX0_look_1 (fun v1 ev1 => ?_)
  refine aw_jn (σ := Mem) 19 (fun s => [(0, rf E a0), (1, rf E a1)]) (fun s => []) (fun s => s) (fun s => ?_) (fun k3 jk4 => ?_)
  · generalize s = h2
    show Aw K E _ _ _ _ _ 19 [(0, rf E a0), (1, rf E a1)] [] h2 _
    refine aw_aload_n (pc := 19) C dX0_look_19 rfl 0 rfl ?_
    refine aw_iconst (pc := 20) (v := 1) C dX0_look_20 (by decide) ?_
    refine aw_putI (pc := 21) C fw_X0_18 rfl rfl dX0_look_21 (fun h5 eh5 => ?_)
    refine aw_aload_n (pc := 24) C dX0_look_24 rfl 0 rfl ?_
    refine aw_getR (pc := 25) C fl_X0_28 dX0_look_25 (fun v6 ev6 => ?_)
    refine aw_aload_n (pc := 28) C dX0_look_28 rfl 1 rfl ?_
    refine aw_callVV (pc := 29) (R := rmX0_look) (c := 1) (As := [rf E a1]) (rest := []) (st := [rf E a1, rf E v6]) (c' := 0) (s' := 0) C hE rfl (by decide) cal_X1_copy ml_X0_40 rfl ⟨(Nat.le_of_ble_eq_true rfl), (Nat.le_of_ble_eq_true rfl)⟩ ⟨(Nat.le_of_ble_eq_true rfl), (Nat.le_of_ble_eq_true rfl)⟩ dX0_look_29 (okX1_copy E (kL K) v6 a1 h5) rfl (Nat.le_of_ble_eq_true rfl) rfl rfl (fun _u h7 eh7 => ?_)
    refine aw_aload_n (pc := 32) C dX0_look_32 rfl 0 rfl ?_
    refine aw_iconst (pc := 33) (v := 0) C dX0_look_33 (by decide) ?_
    refine aw_putI (pc := 34) C fw_X0_9 rfl rfl dX0_look_34 (fun h8 eh8 => ?_)
    refine aw_aload_n (pc := 37) C dX0_look_37 rfl 0 rfl ?_
    refine aw_iconst (pc := 38) (v := 0) C dX0_look_38 (by decide) ?_
    refine aw_putI (pc := 39) C fw_X0_15 rfl rfl dX0_look_39 (fun h9 eh9 => ?_)
    refine aw_aload_n (pc := 42) C dX0_look_42 rfl 0 rfl ?_
    refine aw_iconst (pc := 43) (v := 0) C dX0_look_43 (by decide) ?_
    refine aw_putI (pc := 44) C fw_X0_22 rfl rfl dX0_look_44 (fun h10 eh10 => ?_)
    refine aw_aload_n (pc := 47) C dX0_look_47 rfl 0 rfl ?_
    refine aw_getR (pc := 48) C fl_X0_32 dX0_look_48 (fun v11 ev11 => ?_)
    refine aw_iconst (pc := 51) (v := (-1)) C dX0_look_51 (by decide) ?_
    refine aw_callSV (pc := 52) (R := rmX0_look) (As := [rf E v11, .int (-1)]) (rest := []) (st := [.int (-1), rf E v11]) (c' := 0) (s' := 0) C hE cal_J7_fill_53178 ml_X0_44 rfl ⟨(Nat.le_of_ble_eq_true rfl), (Nat.le_of_ble_eq_true rfl)⟩ ⟨(Nat.le_of_ble_eq_true rfl), (Nat.le_of_ble_eq_true rfl)⟩ dX0_look_52 (okJ7_fill_53178 E (kL K) v11 (-1) h10) rfl (Nat.le_of_ble_eq_true rfl) rfl rfl (fun _u h12 eh12 => ?_)
    refine aw_aload_n (pc := 55) C dX0_look_55 rfl 0 rfl ?_
    refine aw_getR (pc := 56) C fl_X0_28 dX0_look_56 (fun v13 ev13 => ?_)
    refine aw_getI (pc := 59) C fl_X0_50 dX0_look_59 (fun v14 ev14 => ?_)
    refine aw_ineg (pc := 62) C dX0_look_62 ?_
    refine aw_nmI (pc := 63) (fun v15 ev15 => ?_)
    refine aw_istore_n (pc := 63) (L' := [(2, .int v15), (0, rf E a0), (1, rf E a1)]) C dX0_look_63 rfl (by decide) rfl ?_
    refine aw_sub (L' := [(0, rf E a0), (2, .int v15)]) [1, 0] rfl ?_
    refine aw_loop (pc := 64) (σ := Int32 × Mem) (fun s => [(0, rf E a0), (2, .int s.1)]) (fun s => s.2) _ (fun k18 ih19 s => ?_) _ _
    obtain ⟨v16, h17⟩ := s
    show Aw K E _ _ _ _ _ 64 [(0, rf E a0), (2, .int v16)] [] h17 _
    refine aw_iload_n (pc := 64) C dX0_look_64 rfl 1 rfl ?_
    refine aw_aload_n (pc := 65) C dX0_look_65 rfl 0 rfl ?_
    refine aw_getR (pc := 66) C fl_X0_28 dX0_look_66 (fun v20 ev20 => ?_)
    refine aw_getI (pc := 69) C fl_X0_50 dX0_look_69 (fun v21 ev21 => ?_)
    refine aw_icmp_gt (pc := 72) C 143 dX0_look_72 (by decide) (fun c44 => ?_) (fun c44 => ?_)
    · exact aw_return (pc := 143) C hr hz0 rfl dX0_look_143
    refine aw_aload_n (pc := 75) C dX0_look_75 rfl 0 rfl ?_
    refine aw_getR (pc := 76) C fl_X0_28 dX0_look_76 (fun v22 ev22 => ?_)
    refine aw_getI (pc := 79) C fl_X0_50 dX0_look_79 (fun v23 ev23 => ?_)
    refine aw_ineg (pc := 82) C dX0_look_82 ?_
    refine aw_nmI (pc := 83) (fun v24 ev24 => ?_)
    refine aw_istore_n (pc := 83) (L' := [(3, .int v24), (0, rf E a0), (2, .int v16)]) C dX0_look_83 rfl (by decide) rfl ?_
    refine aw_sub (L' := [(0, rf E a0), (2, .int v16), (3, .int v24)]) [1, 2, 0] rfl ?_
    refine aw_loop (pc := 84) (σ := Int32 × Mem) (fun s => [(0, rf E a0), (2, .int v16), (3, .int s.1)]) (fun s => s.2) _ (fun k27 ih28 s => ?_) _ _
    obtain ⟨v25, h26⟩ := s
    show Aw K E _ _ _ _ _ 84 [(0, rf E a0), (2, .int v16), (3, .int v25)] [] h26 _
    refine aw_iload_n (pc := 84) C dX0_look_84 rfl 2 rfl ?_
    refine aw_aload_n (pc := 85) C dX0_look_85 rfl 0 rfl ?_
    refine aw_getR (pc := 86) C fl_X0_28 dX0_look_86 (fun v29 ev29 => ?_)
    refine aw_getI (pc := 89) C fl_X0_50 dX0_look_89 (fun v30 ev30 => ?_)
    refine aw_icmp_gt (pc := 92) C 137 dX0_look_92 (by decide) (fun c43 => ?_) (fun c43 => ?_)
    · refine aw_iincN (pc := 137) (L1 := [(0, rf E a0), (3, .int v25)]) (k := 1) C dX0_look_137 1 rfl (by decide) (by decide) rfl (fun v42 ev42 => ?_)
      refine aw_goto (pc := 140) C 64 dX0_look_140 (by decide) ?_
      exact aw_sub (L' := [(0, rf E a0), (2, .int v42)]) [1, 0] rfl (ih19 (v42, h26))
    refine aw_aload_n (pc := 95) C dX0_look_95 rfl 0 rfl ?_
    refine aw_getR (pc := 96) C fl_X0_28 dX0_look_96 (fun v31 ev31 => ?_)
    refine aw_iload_n (pc := 99) C dX0_look_99 rfl 1 rfl ?_
    refine aw_i2l (pc := 100) C dX0_look_100 ?_
    refine aw_iload_n (pc := 101) C dX0_look_101 rfl 2 rfl ?_
    refine aw_i2l (pc := 102) C dX0_look_102 ?_
    refine aw_callVI (pc := 103) (R := rmX0_look) (c := 1) (As := [.long v16.toInt64, .long v25.toInt64]) (rest := []) (st := [.long v25.toInt64, .long v16.toInt64, rf E v31]) (c' := 0) (s' := 0) C hE rfl (by decide) cal_X1_isAnswer ml_X0_53 rfl ⟨(Nat.le_of_ble_eq_true rfl), (Nat.le_of_ble_eq_true rfl)⟩ ⟨(Nat.le_of_ble_eq_true rfl), (Nat.le_of_ble_eq_true rfl)⟩ dX0_look_103 (okX1_isAnswer E (kL K) v31 v16.toInt64 v25.toInt64 h26) rfl (Nat.le_of_ble_eq_true rfl) rfl rfl (fun v33 h32 eh32 => ?_)
    refine aw_if_eq (pc := 106) C 131 dX0_look_106 (by decide) (fun c41 => ?_) (fun c41 => ?_)
    · refine aw_iincN (pc := 131) (L1 := [(0, rf E a0), (2, .int v16)]) (k := 1) C dX0_look_131 2 rfl (by decide) (by decide) rfl (fun v40 ev40 => ?_)
      refine aw_goto (pc := 134) C 84 dX0_look_134 (by decide) ?_
      exact aw_sub (L' := [(0, rf E a0), (2, .int v16), (3, .int v40)]) [1, 2, 0] rfl (ih28 (v40, h32))
    refine aw_aload_n (pc := 109) C dX0_look_109 rfl 0 rfl ?_
    refine aw_aload_n (pc := 110) C dX0_look_110 rfl 0 rfl ?_
    refine aw_iload_n (pc := 111) C dX0_look_111 rfl 1 rfl ?_
    refine aw_iload_n (pc := 112) C dX0_look_112 rfl 2 rfl ?_
    refine aw_callVI (pc := 113) (R := rmX0_look) (c := 0) (As := [.int v16, .int v25]) (rest := [rf E a0]) (st := [.int v25, .int v16, rf E a0, rf E a0]) (c' := 0) (s' := 0) C hE rfl (by decide) cal_X0_cellAt ml_X0_57 rfl ⟨(Nat.le_of_ble_eq_true rfl), (Nat.le_of_ble_eq_true rfl)⟩ ⟨(Nat.le_of_ble_eq_true rfl), (Nat.le_of_ble_eq_true rfl)⟩ dX0_look_113 (okX0_cellAt E (kL K) a0 v16 v25 h32) rfl (Nat.le_of_ble_eq_true rfl) rfl rfl (fun v35 h34 eh34 => ?_)
    refine aw_bipush (pc := 116) (v := (-2)) C dX0_look_116 (by decide) ?_
    refine aw_callVV (pc := 118) (R := rmX0_look) (c := 0) (As := [.int v35, .int (-2)]) (rest := []) (st := [.int (-2), .int v35, rf E a0]) (c' := 0) (s' := 0) C hE rfl (by decide) cal_X0_setLabel ml_X0_61 rfl ⟨(Nat.le_of_ble_eq_true rfl), (Nat.le_of_ble_eq_true rfl)⟩ ⟨(Nat.le_of_ble_eq_true rfl), (Nat.le_of_ble_eq_true rfl)⟩ dX0_look_118 (okX0_setLabel E (kL K) a0 v35 (-2) h34) rfl (Nat.le_of_ble_eq_true rfl) rfl rfl (fun _u h36 eh36 => ?_)
    refine aw_aload_n (pc := 121) C dX0_look_121 rfl 0 rfl ?_
    refine aw_dup (pc := 122) C rfl dX0_look_122 ?_
    refine aw_getI (pc := 123) C fl_X0_9 dX0_look_123 (fun v37 ev37 => ?_)
    refine aw_iconst (pc := 126) (v := 1) C dX0_look_126 (by decide) ?_
    refine aw_iadd (pc := 127) C dX0_look_127 ?_
    refine aw_putI (pc := 128) C fw_X0_9 rfl rfl dX0_look_128 (fun h38 eh38 => ?_)
    refine aw_iincN (pc := 131) (L1 := [(0, rf E a0), (2, .int v16)]) (k := 1) C dX0_look_131 2 rfl (by decide) (by decide) rfl (fun v39 ev39 => ?_)
    refine aw_goto (pc := 134) C 84 dX0_look_134 (by decide) ?_
    exact aw_sub (L' := [(0, rf E a0), (2, .int v16), (3, .int v39)]) [1, 2, 0] rfl (ih28 (v39, h38))
  refine aw_if_eq (pc := 4) C 19 dX0_look_4 (by decide) (fun c49 => ?_) (fun c49 => ?_)
  · exact aw_sub (L' := [(0, rf E a0), (1, rf E a1)]) [0, 1] rfl (jk4 h0)
  refine aw_aload_n (pc := 7) C dX0_look_7 rfl 0 rfl ?_
  refine aw_getR (pc := 8) C fl_X0_28 dX0_look_8 (fun v45 ev45 => ?_)
  refine aw_aload_n (pc := 11) C dX0_look_11 rfl 1 rfl ?_
  refine aw_callVI (pc := 12) (R := rmX0_look) (c := 1) (As := [rf E a1]) (rest := []) (st := [rf E a1, rf E v45]) (c' := 0) (s' := 0) C hE rfl (by decide) cal_X1_isLike ml_X0_36 rfl ⟨(Nat.le_of_ble_eq_true rfl), (Nat.le_of_ble_eq_true rfl)⟩ ⟨(Nat.le_of_ble_eq_true rfl), (Nat.le_of_ble_eq_true rfl)⟩ dX0_look_12 (okX1_isLike E (kL K) v45 a1 h0) rfl (Nat.le_of_ble_eq_true rfl) rfl rfl (fun v47 h46 eh46 => ?_)
  refine aw_if_eq (pc := 15) C 19 dX0_look_15 (by decide) (fun c48 => ?_) (fun c48 => ?_)
  · exact aw_sub (L' := [(0, rf E a0), (1, rf E a1)]) [0, 1] rfl (jk4 h46)
  exact aw_return (pc := 18) C hr hz0 rfl dX0_look_18
def rmX9_answersNow : Room := { frames := 4, cells := 0, slots := 0, locals := 145 }
set_option maxHeartbeats 4000000 in
set_option maxRecDepth 100000 in
theorem okX9_answersNow (E : Ev) (l : Launch) (a0 : Nat) (h0 : Mem) : AMet E l yX9_answersNow cX9_answersNow 1 (some (.object "TwoLetterForms$Answers")) rmX9_answersNow [rf E a0] h0 (rvR E) (fX9_answersNow a0 h0) := by
  refine am_intro (plainFor_of_name (by decide +kernel)) (Nat.le_of_ble_eq_true rfl) (fun K hKl C hr hnm hz0 => ?_)
  replace C : CxOK K E RX9 cX9_answersNow 1 := C
  have hE : E.1 + 1 ≤ (kS K).heap.size := by omega
  unfold fX9_answersNow
  show Aw K E _ _ _ _ _ 0 [(0, rf E a0)] [] h0 _
  refine aw_aload_n (pc := 0) C dX9_answersNow_0 rfl 0 rfl ?_
  refine aw_getR (pc := 1) C fl_X9_35 dX9_answersNow_1 (fun v1 ev1 => ?_)
  refine aw_aload_n (pc := 4) C dX9_answersNow_4 rfl 0 rfl ?_
  refine aw_getR (pc := 5) C fl_X9_12 dX9_answersNow_5 (fun v2 ev2 => ?_)
  refine aw_getR (pc := 8) C fl_X9_71 dX9_answersNow_8 (fun v3 ev3 => ?_)
  refine aw_callVV (pc := 11) (R := rmX9_answersNow) (c := 0) (As := [rf E v3]) (rest := []) (st := [rf E v3, rf E v1]) (c' := 0) (s' := 0) C hE rfl (by decide) cal_X0_look ml_X9_311 rfl ⟨(Nat.le_of_ble_eq_true rfl), (Nat.le_of_ble_eq_true rfl)⟩ ⟨(Nat.le_of_ble_eq_true rfl), (Nat.le_of_ble_eq_true rfl)⟩ dX9_answersNow_11 (okX0_look E (kL K) v1 v3 h0) rfl (Nat.le_of_ble_eq_true rfl) rfl rfl (fun _u h4 eh4 => ?_)
  refine aw_aload_n (pc := 14) C dX9_answersNow_14 rfl 0 rfl ?_
  refine aw_getR (pc := 15) C fl_X9_35 dX9_answersNow_15 (fun v5 ev5 => ?_)
  exact aw_areturn (pc := 18) C hr (gR_ne ev5) hz0 rfl dX9_answersNow_18
def rmX2_isLeftBy : Room := { frames := 2, cells := 0, slots := 0, locals := 50 }
set_option maxHeartbeats 4000000 in
set_option maxRecDepth 100000 in
theorem okX2_isLeftBy (E : Ev) (l : Launch) (a0 : Nat) (a1 : Int32) (a2 : Int32) (a3 : Int32) (a4 : Int32) (h0 : Mem) : AMet E l yX2_isLeftBy cX2_isLeftBy 6 (some (.boolean)) rmX2_isLeftBy [rf E a0, .int a1, .int a2, .int a3, .int a4] h0 rvI (fX2_isLeftBy a0 a1 a2 a3 a4 h0) := by
  refine am_intro (plainFor_of_name (by decide +kernel)) (Nat.le_of_ble_eq_true rfl) (fun K hKl C hr hnm hz0 => ?_)
  replace C : CxOK K E RX2 cX2_isLeftBy 6 := C
  have hE : E.1 + 1 ≤ (kS K).heap.size := by omega
  unfold fX2_isLeftBy
  show Aw K E _ _ _ _ _ 0 [(0, rf E a0), (1, .int a1), (2, .int a2), (3, .int a3), (4, .int a4)] [] h0 _
  refine aw_aload_n (pc := 0) C dX2_isLeftBy_0 rfl 0 rfl ?_
  refine aw_iload_n (pc := 1) C dX2_isLeftBy_1 rfl 1 rfl ?_
  refine aw_iload_n (pc := 2) C dX2_isLeftBy_2 rfl 2 rfl ?_
  refine aw_iload_n (pc := 3) C dX2_isLeftBy_3 rfl 3 rfl ?_
  refine aw_iload (pc := 4) C dX2_isLeftBy_4 4 rfl ?_
  refine aw_callVV (pc := 6) (R := rmX2_isLeftBy) (c := 2) (As := [.int a1, .int a2, .int a3, .int a4]) (rest := []) (st := [.int a4, .int a3, .int a2, .int a1, rf E a0]) (c' := 0) (s' := 0) C hE rfl (by decide) cal_X2_findTurned ml_X2_74 rfl ⟨(Nat.le_of_ble_eq_true rfl), (Nat.le_of_ble_eq_true rfl)⟩ ⟨(Nat.le_of_ble_eq_true rfl), (Nat.le_of_ble_eq_true rfl)⟩ dX2_isLeftBy_6 (okX2_findTurned E (kL K) a0 a1 a2 a3 a4 h0) rfl (Nat.le_of_ble_eq_true rfl) rfl rfl (fun _u h1 eh1 => ?_)
  refine aw_iconst (pc := 9) (v := 0) C dX2_isLeftBy_9 (by decide) ?_
  refine aw_istore (pc := 10) (L' := [(5, .int 0), (0, rf E a0), (1, .int a1), (2, .int a2), (3, .int a3), (4, .int a4)]) C dX2_isLeftBy_10 (by decide) rfl ?_
  refine aw_sub (L' := [(0, rf E a0), (5, .int 0)]) [1, 0] rfl ?_
  refine aw_loop (pc := 12) (σ := Int32) (fun s => [(0, rf E a0), (5, .int s)]) (fun s => h1) _ (fun k3 ih4 s => ?_) _ _
  generalize s = v2
  show Aw K E _ _ _ _ _ 12 [(0, rf E a0), (5, .int v2)] [] h1 _
  refine aw_iload (pc := 12) C dX2_isLeftBy_12 1 rfl ?_
  refine aw_aload_n (pc := 14) C dX2_isLeftBy_14 rfl 0 rfl ?_
  refine aw_getR (pc := 15) C fl_X2_19 dX2_isLeftBy_15 (fun v5 ev5 => ?_)
  refine aw_arraylength (pc := 18) C dX2_isLeftBy_18 (fun v6 ev6 => ?_)
  refine aw_icmp_ge (pc := 19) C 59 dX2_isLeftBy_19 (by decide) (fun c16 => ?_) (fun c16 => ?_)
  · refine aw_iconst (pc := 59) (v := 1) C dX2_isLeftBy_59 (by decide) ?_
    exact aw_ireturn (pc := 60) C hr rfl hz0 rfl dX2_isLeftBy_60
  refine aw_iload (pc := 22) C dX2_isLeftBy_22 1 rfl ?_
  refine aw_aload_n (pc := 24) C dX2_isLeftBy_24 rfl 0 rfl ?_
  refine aw_getR (pc := 25) C fl_X2_15 dX2_isLeftBy_25 (fun v7 ev7 => ?_)
  refine aw_arraylength (pc := 28) C dX2_isLeftBy_28 (fun v8 ev8 => ?_)
  refine aw_icmp_ge (pc := 29) C 59 dX2_isLeftBy_29 (by decide) (fun c15 => ?_) (fun c15 => ?_)
  · refine aw_iconst (pc := 59) (v := 1) C dX2_isLeftBy_59 (by decide) ?_
    exact aw_ireturn (pc := 60) C hr rfl hz0 rfl dX2_isLeftBy_60
  refine aw_aload_n (pc := 32) C dX2_isLeftBy_32 rfl 0 rfl ?_
  refine aw_getR (pc := 33) C fl_X2_19 dX2_isLeftBy_33 (fun v9 ev9 => ?_)
  refine aw_iload (pc := 36) C dX2_isLeftBy_36 1 rfl ?_
  refine aw_laload (pc := 38) C dX2_isLeftBy_38 (fun v10 ev10 => ?_)
  refine aw_aload_n (pc := 39) C dX2_isLeftBy_39 rfl 0 rfl ?_
  refine aw_getR (pc := 40) C fl_X2_15 dX2_isLeftBy_40 (fun v11 ev11 => ?_)
  refine aw_iload (pc := 43) C dX2_isLeftBy_43 1 rfl ?_
  refine aw_iaload (pc := 45) C dX2_isLeftBy_45 (fun v12 ev12 => ?_)
  refine aw_i2l (pc := 46) C dX2_isLeftBy_46 ?_
  refine aw_lcmp (pc := 47) C dX2_isLeftBy_47 ?_
  refine aw_if_eq (pc := 48) C 53 dX2_isLeftBy_48 (by decide) (fun c14 => ?_) (fun c14 => ?_)
  · refine aw_iincN (pc := 53) (L1 := [(0, rf E a0)]) (k := 1) C dX2_isLeftBy_53 1 rfl (by decide) (by decide) rfl (fun v13 ev13 => ?_)
    refine aw_goto (pc := 56) C 12 dX2_isLeftBy_56 (by decide) ?_
    exact aw_sub (L' := [(0, rf E a0), (5, .int v13)]) [1, 0] rfl (ih4 v13)
  refine aw_iconst (pc := 51) (v := 0) C dX2_isLeftBy_51 (by decide) ?_
  exact aw_ireturn (pc := 52) C hr rfl hz0 rfl dX2_isLeftBy_52
def rmX8_add : Room := { frames := 0, cells := 0, slots := 0, locals := 0 }
set_option maxHeartbeats 4000000 in
set_option maxRecDepth 100000 in
theorem okX8_add (E : Ev) (l : Launch) (a0 : Nat) (a1 : Int32) (a2 : Int32) (a3 : Int32) (a4 : Int32) (h0 : Mem) : AMet E l yX8_add cX8_add 6 none rmX8_add [rf E a0, .int a1, .int a2, .int a3, .int a4] h0 rvV (fX8_add a0 a1 a2 a3 a4 h0) := by
  refine am_intro (plainFor_of_name (by decide +kernel)) (Nat.le_of_ble_eq_true rfl) (fun K hKl C hr hnm hz0 => ?_)
  replace C : CxOK K E RX8 cX8_add 6 := C
  have hE : E.1 + 1 ≤ (kS K).heap.size := by omega
  unfold fX8_add
  show Aw K E _ _ _ _ _ 0 [(0, rf E a0), (1, .int a1), (2, .int a2), (3, .int a3), (4, .int a4)] [] h0 _
  refine aw_aload_n (pc := 0) C dX8_add_0 rfl 0 rfl ?_
  refine aw_getI (pc := 1) C fl_X8_7 dX8_add_1 (fun v1 ev1 => ?_)
  refine aw_iconst (pc := 4) (v := 4) C dX8_add_4 (by decide) ?_
  refine aw_imul (pc := 5) C dX8_add_5 ?_
  refine aw_nmI (pc := 6) (fun v2 ev2 => ?_)
  refine aw_istore (pc := 6) (L' := [(5, .int v2), (0, rf E a0), (1, .int a1), (2, .int a2), (3, .int a3), (4, .int a4)]) C dX8_add_6 (by decide) rfl ?_
  refine aw_iload (pc := 8) C dX8_add_8 0 rfl ?_
  refine aw_if_lt (pc := 10) C 25 dX8_add_10 (by decide) (fun c16 => ?_) (fun c16 => ?_)
  · exact aw_return (pc := 25) C hr hz0 rfl dX8_add_25
  refine aw_iload (pc := 13) C dX8_add_13 0 rfl ?_
  refine aw_iconst (pc := 15) (v := 3) C dX8_add_15 (by decide) ?_
  refine aw_iadd (pc := 16) C dX8_add_16 ?_
  refine aw_aload_n (pc := 17) C dX8_add_17 rfl 1 rfl ?_
  refine aw_getR (pc := 18) C fl_X8_13 dX8_add_18 (fun v3 ev3 => ?_)
  refine aw_arraylength (pc := 21) C dX8_add_21 (fun v4 ev4 => ?_)
  refine aw_icmp_lt (pc := 22) C 26 dX8_add_22 (by decide) (fun c15 => ?_) (fun c15 => ?_)
  · refine aw_aload_n (pc := 26) C dX8_add_26 rfl 1 rfl ?_
    refine aw_getR (pc := 27) C fl_X8_13 dX8_add_27 (fun v5 ev5 => ?_)
    refine aw_iload (pc := 30) C dX8_add_30 0 rfl ?_
    refine aw_iload_n (pc := 32) C dX8_add_32 rfl 2 rfl ?_
    refine aw_iastore (pc := 33) C dX8_add_33 (fun h6 eh6 => ?_)
    refine aw_aload_n (pc := 34) C dX8_add_34 rfl 1 rfl ?_
    refine aw_getR (pc := 35) C fl_X8_13 dX8_add_35 (fun v7 ev7 => ?_)
    refine aw_iload (pc := 38) C dX8_add_38 0 rfl ?_
    refine aw_iconst (pc := 40) (v := 1) C dX8_add_40 (by decide) ?_
    refine aw_iadd (pc := 41) C dX8_add_41 ?_
    refine aw_iload_n (pc := 42) C dX8_add_42 rfl 3 rfl ?_
    refine aw_iastore (pc := 43) C dX8_add_43 (fun h8 eh8 => ?_)
    refine aw_aload_n (pc := 44) C dX8_add_44 rfl 1 rfl ?_
    refine aw_getR (pc := 45) C fl_X8_13 dX8_add_45 (fun v9 ev9 => ?_)
    refine aw_iload (pc := 48) C dX8_add_48 0 rfl ?_
    refine aw_iconst (pc := 50) (v := 2) C dX8_add_50 (by decide) ?_
    refine aw_iadd (pc := 51) C dX8_add_51 ?_
    refine aw_iload_n (pc := 52) C dX8_add_52 rfl 4 rfl ?_
    refine aw_iastore (pc := 53) C dX8_add_53 (fun h10 eh10 => ?_)
    refine aw_aload_n (pc := 54) C dX8_add_54 rfl 1 rfl ?_
    refine aw_getR (pc := 55) C fl_X8_13 dX8_add_55 (fun v11 ev11 => ?_)
    refine aw_iload (pc := 58) C dX8_add_58 0 rfl ?_
    refine aw_iconst (pc := 60) (v := 3) C dX8_add_60 (by decide) ?_
    refine aw_iadd (pc := 61) C dX8_add_61 ?_
    refine aw_iload (pc := 62) C dX8_add_62 5 rfl ?_
    refine aw_iastore (pc := 64) C dX8_add_64 (fun h12 eh12 => ?_)
    refine aw_aload_n (pc := 65) C dX8_add_65 rfl 1 rfl ?_
    refine aw_dup (pc := 66) C rfl dX8_add_66 ?_
    refine aw_getI (pc := 67) C fl_X8_7 dX8_add_67 (fun v13 ev13 => ?_)
    refine aw_iconst (pc := 70) (v := 1) C dX8_add_70 (by decide) ?_
    refine aw_iadd (pc := 71) C dX8_add_71 ?_
    refine aw_putI (pc := 72) C fw_X8_7 rfl rfl dX8_add_72 (fun h14 eh14 => ?_)
    exact aw_return (pc := 75) C hr hz0 rfl dX8_add_75
  exact aw_return (pc := 25) C hr hz0 rfl dX8_add_25
def rmX8_look : Room := { frames := 3, cells := 0, slots := 0, locals := 75 }
set_option maxHeartbeats 4000000 in
set_option maxRecDepth 100000 in
theorem okX8_look (E : Ev) (l : Launch) (a0 : Nat) (a1 : Nat) (h0 : Mem) : AMet E l yX8_look cX8_look 7 none rmX8_look [rf E a0, rf E a1] h0 rvV (fX8_look a0 a1 h0) := by
  refine am_intro (plainFor_of_name (by decide +kernel)) (Nat.le_of_ble_eq_true rfl) (fun K hKl C hr hnm hz0 => ?_)
  replace C : CxOK K E RX8 cX8_look 7 := C
  have hE : E.1 + 1 ≤ (kS K).heap.size := by omega
  unfold fX8_look
  show Aw K E _ _ _ _ _ 0 [(0, rf E a0), (1, rf E a1)] [] h0 _
  refine aw_aload_n (pc := 0) C dX8_look_0 rfl 0 rfl ?_
  refine aw_iconst (pc := 1) (v := 0) C dX8_look_1 (by decide) ?_
  refine aw_putI (pc := 2) C fw_X8_7 rfl rfl dX8_look_2 (fun h1 eh1 => ?_)
  refine aw_bipush (pc := 5) (v := (-2)) C dX8_look_5 (by decide) ?_
  refine aw_istore_n (pc := 7) (L' := [(2, .int (-2)), (0, rf E a0), (1, rf E a1)]) C dX8_look_7 rfl (by decide) rfl ?_
  refine aw_sub (L' := [(0, rf E a0), (1, rf E a1), (2, .int (-2))]) [1, 2, 0] rfl ?_
  refine aw_loop (pc := 8) (σ := Int32 × Mem) (fun s => [(0, rf E a0), (1, rf E a1), (2, .int s.1)]) (fun s => s.2) _ (fun k4 ih5 s => ?_) _ _
  obtain ⟨v2, h3⟩ := s
  show Aw K E _ _ _ _ _ 8 [(0, rf E a0), (1, rf E a1), (2, .int v2)] [] h3 _
  refine aw_iload_n (pc := 8) C dX8_look_8 rfl 2 rfl ?_
  refine aw_iconst (pc := 9) (v := 2) C dX8_look_9 (by decide) ?_
  refine aw_icmp_gt (pc := 10) C 111 dX8_look_10 (by decide) (fun c36 => ?_) (fun c36 => ?_)
  · exact aw_return (pc := 111) C hr hz0 rfl dX8_look_111
  refine aw_bipush (pc := 13) (v := (-2)) C dX8_look_13 (by decide) ?_
  refine aw_istore_n (pc := 15) (L' := [(3, .int (-2)), (0, rf E a0), (1, rf E a1), (2, .int v2)]) C dX8_look_15 rfl (by decide) rfl ?_
  refine aw_sub (L' := [(0, rf E a0), (1, rf E a1), (2, .int v2), (3, .int (-2))]) [1, 2, 3, 0] rfl ?_
  refine aw_loop (pc := 16) (σ := Int32 × Mem) (fun s => [(0, rf E a0), (1, rf E a1), (2, .int v2), (3, .int s.1)]) (fun s => s.2) _ (fun k8 ih9 s => ?_) _ _
  obtain ⟨v6, h7⟩ := s
  show Aw K E _ _ _ _ _ 16 [(0, rf E a0), (1, rf E a1), (2, .int v2), (3, .int v6)] [] h7 _
  refine aw_iload_n (pc := 16) C dX8_look_16 rfl 3 rfl ?_
  refine aw_iconst (pc := 17) (v := 2) C dX8_look_17 (by decide) ?_
  refine aw_icmp_gt (pc := 18) C 105 dX8_look_18 (by decide) (fun c35 => ?_) (fun c35 => ?_)
  · refine aw_iincN (pc := 105) (L1 := [(0, rf E a0), (1, rf E a1), (3, .int v6)]) (k := 1) C dX8_look_105 2 rfl (by decide) (by decide) rfl (fun v34 ev34 => ?_)
    refine aw_goto (pc := 108) C 8 dX8_look_108 (by decide) ?_
    exact aw_sub (L' := [(0, rf E a0), (1, rf E a1), (2, .int v34)]) [1, 2, 0] rfl (ih5 (v34, h7))
  refine aw_bipush (pc := 21) (v := (-2)) C dX8_look_21 (by decide) ?_
  refine aw_istore (pc := 23) (L' := [(4, .int (-2)), (0, rf E a0), (1, rf E a1), (2, .int v2), (3, .int v6)]) C dX8_look_23 (by decide) rfl ?_
  refine aw_sub (L' := [(0, rf E a0), (1, rf E a1), (2, .int v2), (3, .int v6), (4, .int (-2))]) [1, 2, 3, 4, 0] rfl ?_
  refine aw_loop (pc := 25) (σ := Int32 × Mem) (fun s => [(0, rf E a0), (1, rf E a1), (2, .int v2), (3, .int v6), (4, .int s.1)]) (fun s => s.2) _ (fun k12 ih13 s => ?_) _ _
  obtain ⟨v10, h11⟩ := s
  show Aw K E _ _ _ _ _ 25 [(0, rf E a0), (1, rf E a1), (2, .int v2), (3, .int v6), (4, .int v10)] [] h11 _
  refine aw_iload (pc := 25) C dX8_look_25 4 rfl ?_
  refine aw_iconst (pc := 27) (v := 2) C dX8_look_27 (by decide) ?_
  refine aw_icmp_gt (pc := 28) C 99 dX8_look_28 (by decide) (fun c33 => ?_) (fun c33 => ?_)
  · refine aw_iincN (pc := 99) (L1 := [(0, rf E a0), (1, rf E a1), (2, .int v2), (4, .int v10)]) (k := 1) C dX8_look_99 3 rfl (by decide) (by decide) rfl (fun v32 ev32 => ?_)
    refine aw_goto (pc := 102) C 16 dX8_look_102 (by decide) ?_
    exact aw_sub (L' := [(0, rf E a0), (1, rf E a1), (2, .int v2), (3, .int v32)]) [1, 2, 3, 0] rfl (ih9 (v32, h11))
  refine aw_bipush (pc := 31) (v := (-2)) C dX8_look_31 (by decide) ?_
  refine aw_istore (pc := 33) (L' := [(5, .int (-2)), (0, rf E a0), (1, rf E a1), (2, .int v2), (3, .int v6), (4, .int v10)]) C dX8_look_33 (by decide) rfl ?_
  refine aw_sub (L' := [(0, rf E a0), (1, rf E a1), (2, .int v2), (3, .int v6), (4, .int v10), (5, .int (-2))]) [1, 2, 3, 4, 5, 0] rfl ?_
  refine aw_loop (pc := 35) (σ := Int32 × Mem) (fun s => [(0, rf E a0), (1, rf E a1), (2, .int v2), (3, .int v6), (4, .int v10), (5, .int s.1)]) (fun s => s.2) _ (fun k16 ih17 s => ?_) _ _
  obtain ⟨v14, h15⟩ := s
  show Aw K E _ _ _ _ _ 35 [(0, rf E a0), (1, rf E a1), (2, .int v2), (3, .int v6), (4, .int v10), (5, .int v14)] [] h15 _
  refine aw_iload (pc := 35) C dX8_look_35 5 rfl ?_
  refine aw_iconst (pc := 37) (v := 2) C dX8_look_37 (by decide) ?_
  refine aw_icmp_gt (pc := 38) C 93 dX8_look_38 (by decide) (fun c31 => ?_) (fun c31 => ?_)
  · refine aw_iincN (pc := 93) (L1 := [(0, rf E a0), (1, rf E a1), (2, .int v2), (3, .int v6), (5, .int v14)]) (k := 1) C dX8_look_93 4 rfl (by decide) (by decide) rfl (fun v30 ev30 => ?_)
    refine aw_goto (pc := 96) C 25 dX8_look_96 (by decide) ?_
    exact aw_sub (L' := [(0, rf E a0), (1, rf E a1), (2, .int v2), (3, .int v6), (4, .int v30)]) [1, 2, 3, 4, 0] rfl (ih13 (v30, h15))
  refine aw_iload_n (pc := 41) C dX8_look_41 rfl 2 rfl ?_
  refine aw_iload (pc := 42) C dX8_look_42 5 rfl ?_
  refine aw_imul (pc := 44) C dX8_look_44 ?_
  refine aw_iload_n (pc := 45) C dX8_look_45 rfl 3 rfl ?_
  refine aw_iload (pc := 46) C dX8_look_46 4 rfl ?_
  refine aw_imul (pc := 48) C dX8_look_48 ?_
  refine aw_isub (pc := 49) C dX8_look_49 ?_
  refine aw_nmI (pc := 50) (fun v18 ev18 => ?_)
  refine aw_istore (pc := 50) (L' := [(6, .int v18), (0, rf E a0), (1, rf E a1), (2, .int v2), (3, .int v6), (4, .int v10), (5, .int v14)]) C dX8_look_50 (by decide) rfl ?_
  refine aw_iload (pc := 52) C dX8_look_52 0 rfl ?_
  refine aw_iconst (pc := 54) (v := 1) C dX8_look_54 (by decide) ?_
  refine aw_jn (σ := Unit) 64 (fun s => [(0, rf E a0), (1, rf E a1), (2, .int v2), (3, .int v6), (4, .int v10), (5, .int v14)]) (fun s => []) (fun s => h15) (fun s => ?_) (fun k19 jk20 => ?_)
  · show Aw K E _ _ _ _ _ 64 [(0, rf E a0), (1, rf E a1), (2, .int v2), (3, .int v6), (4, .int v10), (5, .int v14)] [] h15 _
    refine aw_aload_n (pc := 64) C dX8_look_64 rfl 1 rfl ?_
    refine aw_iload_n (pc := 65) C dX8_look_65 rfl 2 rfl ?_
    refine aw_iload_n (pc := 66) C dX8_look_66 rfl 3 rfl ?_
    refine aw_iload (pc := 67) C dX8_look_67 4 rfl ?_
    refine aw_iload (pc := 69) C dX8_look_69 5 rfl ?_
    refine aw_callVI (pc := 71) (R := rmX8_look) (c := 2) (As := [.int v2, .int v6, .int v10, .int v14]) (rest := []) (st := [.int v14, .int v10, .int v6, .int v2, rf E a1]) (c' := 0) (s' := 0) C hE rfl (by decide) cal_X2_isLeftBy ml_X8_17 rfl ⟨(Nat.le_of_ble_eq_true rfl), (Nat.le_of_ble_eq_true rfl)⟩ ⟨(Nat.le_of_ble_eq_true rfl), (Nat.le_of_ble_eq_true rfl)⟩ dX8_look_71 (okX2_isLeftBy E (kL K) a1 v2 v6 v10 v14 h15) rfl (Nat.le_of_ble_eq_true rfl) rfl rfl (fun v22 h21 eh21 => ?_)
    refine aw_if_eq (pc := 74) C 87 dX8_look_74 (by decide) (fun c26 => ?_) (fun c26 => ?_)
    · refine aw_iincN (pc := 87) (L1 := [(0, rf E a0), (1, rf E a1), (2, .int v2), (3, .int v6), (4, .int v10)]) (k := 1) C dX8_look_87 5 rfl (by decide) (by decide) rfl (fun v25 ev25 => ?_)
      refine aw_goto (pc := 90) C 35 dX8_look_90 (by decide) ?_
      exact aw_sub (L' := [(0, rf E a0), (1, rf E a1), (2, .int v2), (3, .int v6), (4, .int v10), (5, .int v25)]) [1, 2, 3, 4, 5, 0] rfl (ih17 (v25, h21))
    refine aw_aload_n (pc := 77) C dX8_look_77 rfl 0 rfl ?_
    refine aw_iload_n (pc := 78) C dX8_look_78 rfl 2 rfl ?_
    refine aw_iload_n (pc := 79) C dX8_look_79 rfl 3 rfl ?_
    refine aw_iload (pc := 80) C dX8_look_80 4 rfl ?_
    refine aw_iload (pc := 82) C dX8_look_82 5 rfl ?_
    refine aw_callVV (pc := 84) (R := rmX8_look) (c := 8) (As := [.int v2, .int v6, .int v10, .int v14]) (rest := []) (st := [.int v14, .int v10, .int v6, .int v2, rf E a0]) (c' := 0) (s' := 0) C hE rfl (by decide) cal_X8_add ml_X8_23 rfl ⟨(Nat.le_of_ble_eq_true rfl), (Nat.le_of_ble_eq_true rfl)⟩ ⟨(Nat.le_of_ble_eq_true rfl), (Nat.le_of_ble_eq_true rfl)⟩ dX8_look_84 (okX8_add E (kL K) a0 v2 v6 v10 v14 h21) rfl (Nat.le_of_ble_eq_true rfl) rfl rfl (fun _u h23 eh23 => ?_)
    refine aw_iincN (pc := 87) (L1 := [(0, rf E a0), (1, rf E a1), (2, .int v2), (3, .int v6), (4, .int v10)]) (k := 1) C dX8_look_87 5 rfl (by decide) (by decide) rfl (fun v24 ev24 => ?_)
    refine aw_goto (pc := 90) C 35 dX8_look_90 (by decide) ?_
    exact aw_sub (L' := [(0, rf E a0), (1, rf E a1), (2, .int v2), (3, .int v6), (4, .int v10), (5, .int v24)]) [1, 2, 3, 4, 5, 0] rfl (ih17 (v24, h23))
  refine aw_icmp_eq (pc := 55) C 64 dX8_look_55 (by decide) (fun c29 => ?_) (fun c29 => ?_)
  · exact aw_sub (L' := [(0, rf E a0), (1, rf E a1), (2, .int v2), (3, .int v6), (4, .int v10), (5, .int v14)]) [1, 2, 3, 4, 5, 6] rfl (jk20 ())
  refine aw_iload (pc := 58) C dX8_look_58 0 rfl ?_
  refine aw_iconst (pc := 60) (v := (-1)) C dX8_look_60 (by decide) ?_
  refine aw_icmp_ne (pc := 61) C 87 dX8_look_61 (by decide) (fun c28 => ?_) (fun c28 => ?_)
  · exact aw_sub (L' := [(0, rf E a0), (1, rf E a1), (2, .int v2), (3, .int v6), (4, .int v10), (5, .int v14)]) [1, 2, 3, 4, 5, 6] rfl (jk20 ())
  refine aw_iincN (pc := 87) (L1 := [(6, .int v18), (0, rf E a0), (1, rf E a1), (2, .int v2), (3, .int v6), (4, .int v10)]) (k := 1) C dX8_look_87 6 rfl (by decide) (by decide) rfl (fun v27 ev27 => ?_)
  refine aw_goto (pc := 90) C 35 dX8_look_90 (by decide) ?_
  exact aw_sub (L' := [(0, rf E a0), (1, rf E a1), (2, .int v2), (3, .int v6), (4, .int v10), (5, .int v27)]) [2, 3, 4, 5, 6, 0] rfl (ih17 (v27, h15))
def rmX9_unitsNow : Room := { frames := 4, cells := 0, slots := 0, locals := 101 }
set_option maxHeartbeats 4000000 in
set_option maxRecDepth 100000 in
theorem okX9_unitsNow (E : Ev) (l : Launch) (a0 : Nat) (h0 : Mem) : AMet E l yX9_unitsNow cX9_unitsNow 1 (some (.object "TwoLetterForms$Units")) rmX9_unitsNow [rf E a0] h0 (rvR E) (fX9_unitsNow a0 h0) := by
  refine am_intro (plainFor_of_name (by decide +kernel)) (Nat.le_of_ble_eq_true rfl) (fun K hKl C hr hnm hz0 => ?_)
  replace C : CxOK K E RX9 cX9_unitsNow 1 := C
  have hE : E.1 + 1 ≤ (kS K).heap.size := by omega
  unfold fX9_unitsNow
  show Aw K E _ _ _ _ _ 0 [(0, rf E a0)] [] h0 _
  refine aw_aload_n (pc := 0) C dX9_unitsNow_0 rfl 0 rfl ?_
  refine aw_getR (pc := 1) C fl_X9_42 dX9_unitsNow_1 (fun v1 ev1 => ?_)
  refine aw_aload_n (pc := 4) C dX9_unitsNow_4 rfl 0 rfl ?_
  refine aw_getR (pc := 5) C fl_X9_12 dX9_unitsNow_5 (fun v2 ev2 => ?_)
  refine aw_getR (pc := 8) C fl_X9_71 dX9_unitsNow_8 (fun v3 ev3 => ?_)
  refine aw_getR (pc := 11) C fl_X9_74 dX9_unitsNow_11 (fun v4 ev4 => ?_)
  refine aw_callVV (pc := 14) (R := rmX9_unitsNow) (c := 8) (As := [rf E v4]) (rest := []) (st := [rf E v4, rf E v1]) (c' := 0) (s' := 0) C hE rfl (by decide) cal_X8_look ml_X9_253 rfl ⟨(Nat.le_of_ble_eq_true rfl), (Nat.le_of_ble_eq_true rfl)⟩ ⟨(Nat.le_of_ble_eq_true rfl), (Nat.le_of_ble_eq_true rfl)⟩ dX9_unitsNow_14 (okX8_look E (kL K) v1 v4 h0) rfl (Nat.le_of_ble_eq_true rfl) rfl rfl (fun _u h5 eh5 => ?_)
  refine aw_aload_n (pc := 17) C dX9_unitsNow_17 rfl 0 rfl ?_
  refine aw_getR (pc := 18) C fl_X9_42 dX9_unitsNow_18 (fun v6 ev6 => ?_)
  exact aw_areturn (pc := 21) C hr (gR_ne ev6) hz0 rfl dX9_unitsNow_21
def rmX0_labelAt : Room := { frames := 0, cells := 0, slots := 0, locals := 0 }
set_option maxHeartbeats 4000000 in
set_option maxRecDepth 100000 in
theorem okX0_labelAt (E : Ev) (l : Launch) (a0 : Nat) (a1 : Int32) (h0 : Mem) : AMet E l yX0_labelAt cX0_labelAt 2 (some (.int)) rmX0_labelAt [rf E a0, .int a1] h0 rvI (fX0_labelAt a0 a1 h0) := by
  refine am_intro (plainFor_of_name (by decide +kernel)) (Nat.le_of_ble_eq_true rfl) (fun K hKl C hr hnm hz0 => ?_)
  replace C : CxOK K E RX0 cX0_labelAt 2 := C
  have hE : E.1 + 1 ≤ (kS K).heap.size := by omega
  unfold fX0_labelAt
  show Aw K E _ _ _ _ _ 0 [(0, rf E a0), (1, .int a1)] [] h0 _
  refine aw_iload_n (pc := 0) C dX0_labelAt_0 rfl 1 rfl ?_
  refine aw_if_lt (pc := 1) C 22 dX0_labelAt_1 (by decide) (fun c6 => ?_) (fun c6 => ?_)
  · refine aw_iconst (pc := 22) (v := (-1)) C dX0_labelAt_22 (by decide) ?_
    exact aw_ireturn (pc := 23) C hr rfl hz0 rfl dX0_labelAt_23
  refine aw_iload_n (pc := 4) C dX0_labelAt_4 rfl 1 rfl ?_
  refine aw_aload_n (pc := 5) C dX0_labelAt_5 rfl 0 rfl ?_
  refine aw_getR (pc := 6) C fl_X0_32 dX0_labelAt_6 (fun v1 ev1 => ?_)
  refine aw_arraylength (pc := 9) C dX0_labelAt_9 (fun v2 ev2 => ?_)
  refine aw_icmp_ge (pc := 10) C 22 dX0_labelAt_10 (by decide) (fun c5 => ?_) (fun c5 => ?_)
  · refine aw_iconst (pc := 22) (v := (-1)) C dX0_labelAt_22 (by decide) ?_
    exact aw_ireturn (pc := 23) C hr rfl hz0 rfl dX0_labelAt_23
  refine aw_aload_n (pc := 13) C dX0_labelAt_13 rfl 0 rfl ?_
  refine aw_getR (pc := 14) C fl_X0_32 dX0_labelAt_14 (fun v3 ev3 => ?_)
  refine aw_iload_n (pc := 17) C dX0_labelAt_17 rfl 1 rfl ?_
  refine aw_iaload (pc := 18) C dX0_labelAt_18 (fun v4 ev4 => ?_)
  refine aw_goto (pc := 19) C 23 dX0_labelAt_19 (by decide) ?_
  exact aw_ireturn (pc := 23) C hr rfl hz0 rfl dX0_labelAt_23
def rmX0_await : Room := { frames := 1, cells := 0, slots := 0, locals := 22 }
set_option maxHeartbeats 4000000 in
set_option maxRecDepth 100000 in
theorem okX0_await (E : Ev) (l : Launch) (a0 : Nat) (a1 : Int32) (a2 : Int32) (h0 : Mem) : AMet E l yX0_await cX0_await 3 (some (.int)) rmX0_await [rf E a0, .int a1, .int a2] h0 rvI (fX0_await a0 a1 a2 h0) := by
  refine am_intro (plainFor_of_name (by decide +kernel)) (Nat.le_of_ble_eq_true rfl) (fun K hKl C hr hnm hz0 => ?_)
  replace C : CxOK K E RX0 cX0_await 3 := C
  have hE : E.1 + 1 ≤ (kS K).heap.size := by omega
  unfold fX0_await
  show Aw K E _ _ _ _ _ 0 [(0, rf E a0), (1, .int a1), (2, .int a2)] [] h0 _
  refine aw_aload_n (pc := 0) C dX0_await_0 rfl 0 rfl ?_
  refine aw_iload_n (pc := 1) C dX0_await_1 rfl 1 rfl ?_
  refine aw_callVI (pc := 2) (R := rmX0_await) (c := 0) (As := [.int a1]) (rest := []) (st := [.int a1, rf E a0]) (c' := 0) (s' := 0) C hE rfl (by decide) cal_X0_labelAt ml_X0_99 rfl ⟨(Nat.le_of_ble_eq_true rfl), (Nat.le_of_ble_eq_true rfl)⟩ ⟨(Nat.le_of_ble_eq_true rfl), (Nat.le_of_ble_eq_true rfl)⟩ dX0_await_2 (okX0_labelAt E (kL K) a0 a1 h0) rfl (Nat.le_of_ble_eq_true rfl) rfl rfl (fun v2 h1 eh1 => ?_)
  refine aw_bipush (pc := 5) (v := (-2)) C dX0_await_5 (by decide) ?_
  refine aw_icmp_eq (pc := 7) C 12 dX0_await_7 (by decide) (fun c4 => ?_) (fun c4 => ?_)
  · refine aw_aload_n (pc := 12) C dX0_await_12 rfl 0 rfl ?_
    refine aw_iload_n (pc := 13) C dX0_await_13 rfl 1 rfl ?_
    refine aw_bipush (pc := 14) (v := (-4)) C dX0_await_14 (by decide) ?_
    refine aw_iload_n (pc := 16) C dX0_await_16 rfl 2 rfl ?_
    refine aw_isub (pc := 17) C dX0_await_17 ?_
    refine aw_callVV (pc := 18) (R := rmX0_await) (c := 0) (As := [.int a1, .int ((-4) - a2)]) (rest := []) (st := [.int ((-4) - a2), .int a1, rf E a0]) (c' := 0) (s' := 0) C hE rfl (by decide) cal_X0_setLabel ml_X0_61 rfl ⟨(Nat.le_of_ble_eq_true rfl), (Nat.le_of_ble_eq_true rfl)⟩ ⟨(Nat.le_of_ble_eq_true rfl), (Nat.le_of_ble_eq_true rfl)⟩ dX0_await_18 (okX0_setLabel E (kL K) a0 a1 ((-4) - a2) h1) rfl (Nat.le_of_ble_eq_true rfl) rfl rfl (fun _u h3 eh3 => ?_)
    refine aw_iload_n (pc := 21) C dX0_await_21 rfl 1 rfl ?_
    exact aw_ireturn (pc := 22) C hr rfl hz0 rfl dX0_await_22
  refine aw_iload_n (pc := 10) C dX0_await_10 rfl 2 rfl ?_
  exact aw_ireturn (pc := 11) C hr rfl hz0 rfl dX0_await_11
def rmX0_behind : Room := { frames := 1, cells := 0, slots := 0, locals := 21 }
set_option maxHeartbeats 4000000 in
set_option maxRecDepth 100000 in
theorem okX0_behind (E : Ev) (l : Launch) (a0 : Nat) (a1 : Int32) (h0 : Mem) : AMet E l yX0_behind cX0_behind 3 (some (.int)) rmX0_behind [rf E a0, .int a1] h0 rvI (fX0_behind a0 a1 h0) := by
  refine am_intro (plainFor_of_name (by decide +kernel)) (Nat.le_of_ble_eq_true rfl) (fun K hKl C hr hnm hz0 => ?_)
  replace C : CxOK K E RX0 cX0_behind 3 := C
  have hE : E.1 + 1 ≤ (kS K).heap.size := by omega
  unfold fX0_behind
  show Aw K E _ _ _ _ _ 0 [(0, rf E a0), (1, .int a1)] [] h0 _
  refine aw_aload_n (pc := 0) C dX0_behind_0 rfl 0 rfl ?_
  refine aw_iload_n (pc := 1) C dX0_behind_1 rfl 1 rfl ?_
  refine aw_callVI (pc := 2) (R := rmX0_behind) (c := 0) (As := [.int a1]) (rest := []) (st := [.int a1, rf E a0]) (c' := 0) (s' := 0) C hE rfl (by decide) cal_X0_labelAt ml_X0_99 rfl ⟨(Nat.le_of_ble_eq_true rfl), (Nat.le_of_ble_eq_true rfl)⟩ ⟨(Nat.le_of_ble_eq_true rfl), (Nat.le_of_ble_eq_true rfl)⟩ dX0_behind_2 (okX0_labelAt E (kL K) a0 a1 h0) rfl (Nat.le_of_ble_eq_true rfl) rfl rfl (fun v2 h1 eh1 => ?_)
  refine aw_istore_n (pc := 5) (L' := [(2, .int v2), (0, rf E a0), (1, .int a1)]) C dX0_behind_5 rfl (by decide) rfl ?_
  refine aw_iload_n (pc := 6) C dX0_behind_6 rfl 0 rfl ?_
  refine aw_bipush (pc := 7) (v := (-3)) C dX0_behind_7 (by decide) ?_
  refine aw_icmp_ge (pc := 9) C 19 dX0_behind_9 (by decide) (fun c3 => ?_) (fun c3 => ?_)
  · refine aw_iconst (pc := 19) (v := (-1)) C dX0_behind_19 (by decide) ?_
    exact aw_ireturn (pc := 20) C hr rfl hz0 rfl dX0_behind_20
  refine aw_bipush (pc := 12) (v := (-4)) C dX0_behind_12 (by decide) ?_
  refine aw_iload_n (pc := 14) C dX0_behind_14 rfl 0 rfl ?_
  refine aw_isub (pc := 15) C dX0_behind_15 ?_
  refine aw_goto (pc := 16) C 20 dX0_behind_16 (by decide) ?_
  exact aw_ireturn (pc := 20) C hr rfl hz0 rfl dX0_behind_20
def rmX8_get : Room := { frames := 0, cells := 0, slots := 0, locals := 0 }
set_option maxHeartbeats 4000000 in
set_option maxRecDepth 100000 in
theorem okX8_get (E : Ev) (l : Launch) (a0 : Nat) (a1 : Int32) (a2 : Int32) (h0 : Mem) : AMet E l yX8_get cX8_get 4 (some (.int)) rmX8_get [rf E a0, .int a1, .int a2] h0 rvI (fX8_get a0 a1 a2 h0) := by
  refine am_intro (plainFor_of_name (by decide +kernel)) (Nat.le_of_ble_eq_true rfl) (fun K hKl C hr hnm hz0 => ?_)
  replace C : CxOK K E RX8 cX8_get 4 := C
  have hE : E.1 + 1 ≤ (kS K).heap.size := by omega
  unfold fX8_get
  show Aw K E _ _ _ _ _ 0 [(0, rf E a0), (1, .int a1), (2, .int a2)] [] h0 _
  refine aw_iload_n (pc := 0) C dX8_get_0 rfl 1 rfl ?_
  refine aw_iconst (pc := 1) (v := 4) C dX8_get_1 (by decide) ?_
  refine aw_imul (pc := 2) C dX8_get_2 ?_
  refine aw_iload_n (pc := 3) C dX8_get_3 rfl 2 rfl ?_
  refine aw_iadd (pc := 4) C dX8_get_4 ?_
  refine aw_nmI (pc := 5) (fun v1 ev1 => ?_)
  refine aw_istore_n (pc := 5) (L' := [(3, .int v1), (0, rf E a0), (1, .int a1), (2, .int a2)]) C dX8_get_5 rfl (by decide) rfl ?_
  refine aw_iload_n (pc := 6) C dX8_get_6 rfl 2 rfl ?_
  refine aw_if_lt (pc := 7) C 45 dX8_get_7 (by decide) (fun c11 => ?_) (fun c11 => ?_)
  · refine aw_iconst (pc := 45) (v := 0) C dX8_get_45 (by decide) ?_
    exact aw_ireturn (pc := 46) C hr rfl hz0 rfl dX8_get_46
  refine aw_iload_n (pc := 10) C dX8_get_10 rfl 2 rfl ?_
  refine aw_aload_n (pc := 11) C dX8_get_11 rfl 1 rfl ?_
  refine aw_getI (pc := 12) C fl_X8_7 dX8_get_12 (fun v2 ev2 => ?_)
  refine aw_icmp_ge (pc := 15) C 45 dX8_get_15 (by decide) (fun c10 => ?_) (fun c10 => ?_)
  · refine aw_iconst (pc := 45) (v := 0) C dX8_get_45 (by decide) ?_
    exact aw_ireturn (pc := 46) C hr rfl hz0 rfl dX8_get_46
  refine aw_iload_n (pc := 18) C dX8_get_18 rfl 3 rfl ?_
  refine aw_if_lt (pc := 19) C 45 dX8_get_19 (by decide) (fun c9 => ?_) (fun c9 => ?_)
  · refine aw_iconst (pc := 45) (v := 0) C dX8_get_45 (by decide) ?_
    exact aw_ireturn (pc := 46) C hr rfl hz0 rfl dX8_get_46
  refine aw_iload_n (pc := 22) C dX8_get_22 rfl 3 rfl ?_
  refine aw_iconst (pc := 23) (v := 4) C dX8_get_23 (by decide) ?_
  refine aw_icmp_ge (pc := 24) C 45 dX8_get_24 (by decide) (fun c8 => ?_) (fun c8 => ?_)
  · refine aw_iconst (pc := 45) (v := 0) C dX8_get_45 (by decide) ?_
    exact aw_ireturn (pc := 46) C hr rfl hz0 rfl dX8_get_46
  refine aw_iload_n (pc := 27) C dX8_get_27 rfl 0 rfl ?_
  refine aw_aload_n (pc := 28) C dX8_get_28 rfl 1 rfl ?_
  refine aw_getR (pc := 29) C fl_X8_13 dX8_get_29 (fun v3 ev3 => ?_)
  refine aw_arraylength (pc := 32) C dX8_get_32 (fun v4 ev4 => ?_)
  refine aw_icmp_ge (pc := 33) C 45 dX8_get_33 (by decide) (fun c7 => ?_) (fun c7 => ?_)
  · refine aw_iconst (pc := 45) (v := 0) C dX8_get_45 (by decide) ?_
    exact aw_ireturn (pc := 46) C hr rfl hz0 rfl dX8_get_46
  refine aw_aload_n (pc := 36) C dX8_get_36 rfl 1 rfl ?_
  refine aw_getR (pc := 37) C fl_X8_13 dX8_get_37 (fun v5 ev5 => ?_)
  refine aw_iload_n (pc := 40) C dX8_get_40 rfl 0 rfl ?_
  refine aw_iaload (pc := 41) C dX8_get_41 (fun v6 ev6 => ?_)
  refine aw_goto (pc := 42) C 46 dX8_get_42 (by decide) ?_
  exact aw_ireturn (pc := 46) C hr rfl hz0 rfl dX8_get_46
def rmX0_xOf : Room := { frames := 0, cells := 0, slots := 0, locals := 0 }
set_option maxHeartbeats 4000000 in
set_option maxRecDepth 100000 in
theorem okX0_xOf (E : Ev) (l : Launch) (a0 : Int32) (h0 : Mem) : AMet E l yX0_xOf cX0_xOf 1 (some (.int)) rmX0_xOf [.int a0] h0 rvI (fX0_xOf a0 h0) := by
  refine am_intro (plainFor_of_name (by decide +kernel)) (Nat.le_of_ble_eq_true rfl) (fun K hKl C hr hnm hz0 => ?_)
  replace C : CxOK K E RX0 cX0_xOf 1 := C
  have hE : E.1 + 1 ≤ (kS K).heap.size := by omega
  unfold fX0_xOf
  show Aw K E _ _ _ _ _ 0 [(0, .int a0)] [] h0 _
  refine aw_iload_n (pc := 0) C dX0_xOf_0 rfl 0 rfl ?_
  refine aw_bipush (pc := 1) (v := 81) C dX0_xOf_1 (by decide) ?_
  refine aw_idiv (pc := 3) C dX0_xOf_3 (fun z3 => ?_)
  refine aw_bipush (pc := 4) (v := 40) C dX0_xOf_4 (by decide) ?_
  refine aw_isub (pc := 6) C dX0_xOf_6 ?_
  exact aw_ireturn (pc := 7) C hr rfl hz0 rfl dX0_xOf_7
def rmX0_yOf : Room := { frames := 0, cells := 0, slots := 0, locals := 0 }
set_option maxHeartbeats 4000000 in
set_option maxRecDepth 100000 in
theorem okX0_yOf (E : Ev) (l : Launch) (a0 : Int32) (h0 : Mem) : AMet E l yX0_yOf cX0_yOf 1 (some (.int)) rmX0_yOf [.int a0] h0 rvI (fX0_yOf a0 h0) := by
  refine am_intro (plainFor_of_name (by decide +kernel)) (Nat.le_of_ble_eq_true rfl) (fun K hKl C hr hnm hz0 => ?_)
  replace C : CxOK K E RX0 cX0_yOf 1 := C
  have hE : E.1 + 1 ≤ (kS K).heap.size := by omega
  unfold fX0_yOf
  show Aw K E _ _ _ _ _ 0 [(0, .int a0)] [] h0 _
  refine aw_iload_n (pc := 0) C dX0_yOf_0 rfl 0 rfl ?_
  refine aw_bipush (pc := 1) (v := 81) C dX0_yOf_1 (by decide) ?_
  refine aw_irem (pc := 3) C dX0_yOf_3 (fun z3 => ?_)
  refine aw_bipush (pc := 4) (v := 40) C dX0_yOf_4 (by decide) ?_
  refine aw_isub (pc := 6) C dX0_yOf_6 ?_
  exact aw_ireturn (pc := 7) C hr rfl hz0 rfl dX0_yOf_7
def rmX0_spread : Room := { frames := 2, cells := 0, slots := 0, locals := 46 }
set_option maxHeartbeats 4000000 in
set_option maxRecDepth 100000 in
theorem okX0_spread (E : Ev) (l : Launch) (a0 : Nat) (a1 : Int32) (a2 : Nat) (h0 : Mem) : AMet E l yX0_spread cX0_spread 9 none rmX0_spread [rf E a0, .int a1, rf E a2] h0 rvV (fX0_spread a0 a1 a2 h0) := by
  refine am_intro (plainFor_of_name (by decide +kernel)) (Nat.le_of_ble_eq_true rfl) (fun K hKl C hr hnm hz0 => ?_)
  replace C : CxOK K E RX0 cX0_spread 9 := C
  have hE : E.1 + 1 ≤ (kS K).heap.size := by omega
  unfold fX0_spread
  show Aw K E _ _ _ _ _ 0 [(0, rf E a0), (1, .int a1), (2, rf E a2)] [] h0 _
  refine aw_aload_n (pc := 0) C dX0_spread_0 rfl 0 rfl ?_
  refine aw_iload_n (pc := 1) C dX0_spread_1 rfl 1 rfl ?_
  refine aw_iconst (pc := 2) (v := (-1)) C dX0_spread_2 (by decide) ?_
  refine aw_callVI (pc := 3) (R := rmX0_spread) (c := 0) (As := [.int a1, .int (-1)]) (rest := []) (st := [.int (-1), .int a1, rf E a0]) (c' := 0) (s' := 0) C hE rfl (by decide) cal_X0_await ml_X0_82 rfl ⟨(Nat.le_of_ble_eq_true rfl), (Nat.le_of_ble_eq_true rfl)⟩ ⟨(Nat.le_of_ble_eq_true rfl), (Nat.le_of_ble_eq_true rfl)⟩ dX0_spread_3 (okX0_await E (kL K) a0 a1 (-1) h0) rfl (Nat.le_of_ble_eq_true rfl) rfl rfl (fun v2 h1 eh1 => ?_)
  refine aw_istore_n (pc := 6) (L' := [(3, .int v2), (0, rf E a0), (1, .int a1), (2, rf E a2)]) C dX0_spread_6 rfl (by decide) rfl ?_
  refine aw_iconst (pc := 7) (v := 0) C dX0_spread_7 (by decide) ?_
  refine aw_istore (pc := 8) (L' := [(4, .int 0), (3, .int v2), (0, rf E a0), (1, .int a1), (2, rf E a2)]) C dX0_spread_8 (by decide) rfl ?_
  refine aw_sub (L' := [(0, rf E a0), (2, rf E a2), (3, .int v2), (4, .int 0)]) [2, 4, 1, 0] rfl ?_
  refine aw_loop (pc := 10) (σ := Int32 × Int32 × Mem) (fun s => [(0, rf E a0), (2, rf E a2), (3, .int s.1), (4, .int s.2.1)]) (fun s => s.2.2) _ (fun k6 ih7 s => ?_) _ _
  obtain ⟨v3, v4, h5⟩ := s
  show Aw K E _ _ _ _ _ 10 [(0, rf E a0), (2, rf E a2), (3, .int v3), (4, .int v4)] [] h5 _
  refine aw_iload (pc := 10) C dX0_spread_10 3 rfl ?_
  refine aw_aload_n (pc := 12) C dX0_spread_12 rfl 0 rfl ?_
  refine aw_getR (pc := 13) C fl_X0_32 dX0_spread_13 (fun v8 ev8 => ?_)
  refine aw_arraylength (pc := 16) C dX0_spread_16 (fun v9 ev9 => ?_)
  refine aw_icmp_ge (pc := 17) C 141 dX0_spread_17 (by decide) (fun c46 => ?_) (fun c46 => ?_)
  · exact aw_return (pc := 141) C hr hz0 rfl dX0_spread_141
  refine aw_iload_n (pc := 20) C dX0_spread_20 rfl 2 rfl ?_
  refine aw_iconst (pc := 21) (v := (-1)) C dX0_spread_21 (by decide) ?_
  refine aw_icmp_eq (pc := 22) C 141 dX0_spread_22 (by decide) (fun c45 => ?_) (fun c45 => ?_)
  · exact aw_return (pc := 141) C hr hz0 rfl dX0_spread_141
  refine aw_iload_n (pc := 25) C dX0_spread_25 rfl 2 rfl ?_
  refine aw_istore (pc := 26) (L' := [(5, .int v3), (0, rf E a0), (2, rf E a2), (3, .int v3), (4, .int v4)]) C dX0_spread_26 (by decide) rfl ?_
  refine aw_aload_n (pc := 28) C dX0_spread_28 rfl 1 rfl ?_
  refine aw_iload (pc := 29) C dX0_spread_29 0 rfl ?_
  refine aw_callVI (pc := 31) (R := rmX0_spread) (c := 0) (As := [.int v3]) (rest := []) (st := [.int v3, rf E a0]) (c' := 0) (s' := 0) C hE rfl (by decide) cal_X0_behind ml_X0_85 rfl ⟨(Nat.le_of_ble_eq_true rfl), (Nat.le_of_ble_eq_true rfl)⟩ ⟨(Nat.le_of_ble_eq_true rfl), (Nat.le_of_ble_eq_true rfl)⟩ dX0_spread_31 (okX0_behind E (kL K) a0 v3 h5) rfl (Nat.le_of_ble_eq_true rfl) rfl rfl (fun v11 h10 eh10 => ?_)
  refine aw_istore_n (pc := 34) (L' := [(3, .int v11), (5, .int v3), (0, rf E a0), (2, rf E a2), (4, .int v4)]) C dX0_spread_34 rfl (by decide) rfl ?_
  refine aw_aload_n (pc := 35) C dX0_spread_35 rfl 2 rfl ?_
  refine aw_iload (pc := 36) C dX0_spread_36 1 rfl ?_
  refine aw_aload_n (pc := 38) C dX0_spread_38 rfl 2 rfl ?_
  refine aw_getI (pc := 39) C fl_X0_15 dX0_spread_39 (fun v12 ev12 => ?_)
  refine aw_callVV (pc := 42) (R := rmX0_spread) (c := 0) (As := [.int v3, .int v12]) (rest := []) (st := [.int v12, .int v3, rf E a0]) (c' := 0) (s' := 0) C hE rfl (by decide) cal_X0_setLabel ml_X0_61 rfl ⟨(Nat.le_of_ble_eq_true rfl), (Nat.le_of_ble_eq_true rfl)⟩ ⟨(Nat.le_of_ble_eq_true rfl), (Nat.le_of_ble_eq_true rfl)⟩ dX0_spread_42 (okX0_setLabel E (kL K) a0 v3 v12 h10) rfl (Nat.le_of_ble_eq_true rfl) rfl rfl (fun _u h13 eh13 => ?_)
  refine aw_iconst (pc := 45) (v := 0) C dX0_spread_45 (by decide) ?_
  refine aw_istore (pc := 46) (L' := [(6, .int 0), (3, .int v11), (5, .int v3), (0, rf E a0), (2, rf E a2), (4, .int v4)]) C dX0_spread_46 (by decide) rfl ?_
  refine aw_sub (L' := [(0, rf E a0), (2, rf E a2), (3, .int v11), (4, .int v4), (5, .int v3), (6, .int 0)]) [3, 4, 1, 5, 2, 0] rfl ?_
  refine aw_loop (pc := 48) (σ := Int32 × Int32 × Mem) (fun s => [(0, rf E a0), (2, rf E a2), (3, .int s.1), (4, .int v4), (5, .int v3), (6, .int s.2.1)]) (fun s => s.2.2) _ (fun k17 ih18 s => ?_) _ _
  obtain ⟨v14, v15, h16⟩ := s
  show Aw K E _ _ _ _ _ 48 [(0, rf E a0), (2, rf E a2), (3, .int v14), (4, .int v4), (5, .int v3), (6, .int v15)] [] h16 _
  refine aw_iload (pc := 48) C dX0_spread_48 5 rfl ?_
  refine aw_aload_n (pc := 50) C dX0_spread_50 rfl 1 rfl ?_
  refine aw_getI (pc := 51) C fl_X0_89 dX0_spread_51 (fun v19 ev19 => ?_)
  refine aw_icmp_ge (pc := 54) C 135 dX0_spread_54 (by decide) (fun c44 => ?_) (fun c44 => ?_)
  · refine aw_iincN (pc := 135) (L1 := [(0, rf E a0), (2, rf E a2), (3, .int v14), (5, .int v3), (6, .int v15)]) (k := 1) C dX0_spread_135 3 rfl (by decide) (by decide) rfl (fun v43 ev43 => ?_)
    refine aw_goto (pc := 138) C 10 dX0_spread_138 (by decide) ?_
    exact aw_sub (L' := [(0, rf E a0), (2, rf E a2), (3, .int v14), (4, .int v43)]) [1, 2, 3, 0] rfl (ih7 (v14, v43, h16))
  refine aw_aload_n (pc := 57) C dX0_spread_57 rfl 1 rfl ?_
  refine aw_iload (pc := 58) C dX0_spread_58 5 rfl ?_
  refine aw_iconst (pc := 60) (v := 0) C dX0_spread_60 (by decide) ?_
  refine aw_callVI (pc := 61) (R := rmX0_spread) (c := 8) (As := [.int v15, .int 0]) (rest := []) (st := [.int 0, .int v15, rf E a2]) (c' := 0) (s' := 0) C hE rfl (by decide) cal_X8_get ml_X0_90 rfl ⟨(Nat.le_of_ble_eq_true rfl), (Nat.le_of_ble_eq_true rfl)⟩ ⟨(Nat.le_of_ble_eq_true rfl), (Nat.le_of_ble_eq_true rfl)⟩ dX0_spread_61 (okX8_get E (kL K) a2 v15 0 h16) rfl (Nat.le_of_ble_eq_true rfl) rfl rfl (fun v21 h20 eh20 => ?_)
  refine aw_iload (pc := 64) C dX0_spread_64 4 rfl ?_
  refine aw_callSI (pc := 66) (R := rmX0_spread) (As := [.int v3]) (rest := [.int v21]) (st := [.int v3, .int v21]) (c' := 0) (s' := 0) C hE cal_X0_xOf ml_X0_93 rfl ⟨(Nat.le_of_ble_eq_true rfl), (Nat.le_of_ble_eq_true rfl)⟩ ⟨(Nat.le_of_ble_eq_true rfl), (Nat.le_of_ble_eq_true rfl)⟩ dX0_spread_66 (okX0_xOf E (kL K) v3 h20) rfl (Nat.le_of_ble_eq_true rfl) rfl rfl (fun v23 h22 eh22 => ?_)
  refine aw_imul (pc := 69) C dX0_spread_69 ?_
  refine aw_aload_n (pc := 70) C dX0_spread_70 rfl 1 rfl ?_
  refine aw_iload (pc := 71) C dX0_spread_71 5 rfl ?_
  refine aw_iconst (pc := 73) (v := 1) C dX0_spread_73 (by decide) ?_
  refine aw_callVI (pc := 74) (R := rmX0_spread) (c := 8) (As := [.int v15, .int 1]) (rest := [.int (v21 * v23)]) (st := [.int 1, .int v15, rf E a2, .int (v21 * v23)]) (c' := 0) (s' := 0) C hE rfl (by decide) cal_X8_get ml_X0_90 rfl ⟨(Nat.le_of_ble_eq_true rfl), (Nat.le_of_ble_eq_true rfl)⟩ ⟨(Nat.le_of_ble_eq_true rfl), (Nat.le_of_ble_eq_true rfl)⟩ dX0_spread_74 (okX8_get E (kL K) a2 v15 1 h22) rfl (Nat.le_of_ble_eq_true rfl) rfl rfl (fun v25 h24 eh24 => ?_)
  refine aw_iload (pc := 77) C dX0_spread_77 4 rfl ?_
  refine aw_callSI (pc := 79) (R := rmX0_spread) (As := [.int v3]) (rest := [.int v25, .int (v21 * v23)]) (st := [.int v3, .int v25, .int (v21 * v23)]) (c' := 0) (s' := 0) C hE cal_X0_yOf ml_X0_96 rfl ⟨(Nat.le_of_ble_eq_true rfl), (Nat.le_of_ble_eq_true rfl)⟩ ⟨(Nat.le_of_ble_eq_true rfl), (Nat.le_of_ble_eq_true rfl)⟩ dX0_spread_79 (okX0_yOf E (kL K) v3 h24) rfl (Nat.le_of_ble_eq_true rfl) rfl rfl (fun v27 h26 eh26 => ?_)
  refine aw_imul (pc := 82) C dX0_spread_82 ?_
  refine aw_iadd (pc := 83) C dX0_spread_83 ?_
  refine aw_nmI (pc := 84) (fun v28 ev28 => ?_)
  refine aw_istore (pc := 84) (L' := [(7, .int v28), (0, rf E a0), (2, rf E a2), (3, .int v14), (4, .int v4), (5, .int v3), (6, .int v15)]) C dX0_spread_84 (by decide) rfl ?_
  refine aw_aload_n (pc := 86) C dX0_spread_86 rfl 2 rfl ?_
  refine aw_iload (pc := 87) C dX0_spread_87 6 rfl ?_
  refine aw_iconst (pc := 89) (v := 2) C dX0_spread_89 (by decide) ?_
  refine aw_callVI (pc := 90) (R := rmX0_spread) (c := 8) (As := [.int v15, .int 2]) (rest := []) (st := [.int 2, .int v15, rf E a2]) (c' := 0) (s' := 0) C hE rfl (by decide) cal_X8_get ml_X0_90 rfl ⟨(Nat.le_of_ble_eq_true rfl), (Nat.le_of_ble_eq_true rfl)⟩ ⟨(Nat.le_of_ble_eq_true rfl), (Nat.le_of_ble_eq_true rfl)⟩ dX0_spread_90 (okX8_get E (kL K) a2 v15 2 h26) rfl (Nat.le_of_ble_eq_true rfl) rfl rfl (fun v30 h29 eh29 => ?_)
  refine aw_iload (pc := 93) C dX0_spread_93 5 rfl ?_
  refine aw_callSI (pc := 95) (R := rmX0_spread) (As := [.int v3]) (rest := [.int v30]) (st := [.int v3, .int v30]) (c' := 0) (s' := 0) C hE cal_X0_xOf ml_X0_93 rfl ⟨(Nat.le_of_ble_eq_true rfl), (Nat.le_of_ble_eq_true rfl)⟩ ⟨(Nat.le_of_ble_eq_true rfl), (Nat.le_of_ble_eq_true rfl)⟩ dX0_spread_95 (okX0_xOf E (kL K) v3 h29) rfl (Nat.le_of_ble_eq_true rfl) rfl rfl (fun v32 h31 eh31 => ?_)
  refine aw_imul (pc := 98) C dX0_spread_98 ?_
  refine aw_aload_n (pc := 99) C dX0_spread_99 rfl 2 rfl ?_
  refine aw_iload (pc := 100) C dX0_spread_100 6 rfl ?_
  refine aw_iconst (pc := 102) (v := 3) C dX0_spread_102 (by decide) ?_
  refine aw_callVI (pc := 103) (R := rmX0_spread) (c := 8) (As := [.int v15, .int 3]) (rest := [.int (v30 * v32)]) (st := [.int 3, .int v15, rf E a2, .int (v30 * v32)]) (c' := 0) (s' := 0) C hE rfl (by decide) cal_X8_get ml_X0_90 rfl ⟨(Nat.le_of_ble_eq_true rfl), (Nat.le_of_ble_eq_true rfl)⟩ ⟨(Nat.le_of_ble_eq_true rfl), (Nat.le_of_ble_eq_true rfl)⟩ dX0_spread_103 (okX8_get E (kL K) a2 v15 3 h31) rfl (Nat.le_of_ble_eq_true rfl) rfl rfl (fun v34 h33 eh33 => ?_)
  refine aw_iload (pc := 106) C dX0_spread_106 5 rfl ?_
  refine aw_callSI (pc := 108) (R := rmX0_spread) (As := [.int v3]) (rest := [.int v34, .int (v30 * v32)]) (st := [.int v3, .int v34, .int (v30 * v32)]) (c' := 0) (s' := 0) C hE cal_X0_yOf ml_X0_96 rfl ⟨(Nat.le_of_ble_eq_true rfl), (Nat.le_of_ble_eq_true rfl)⟩ ⟨(Nat.le_of_ble_eq_true rfl), (Nat.le_of_ble_eq_true rfl)⟩ dX0_spread_108 (okX0_yOf E (kL K) v3 h33) rfl (Nat.le_of_ble_eq_true rfl) rfl rfl (fun v36 h35 eh35 => ?_)
  refine aw_imul (pc := 111) C dX0_spread_111 ?_
  refine aw_iadd (pc := 112) C dX0_spread_112 ?_
  refine aw_nmI (pc := 113) (fun v37 ev37 => ?_)
  refine aw_istore (pc := 113) (L' := [(8, .int v37), (7, .int v28), (0, rf E a0), (2, rf E a2), (3, .int v14), (4, .int v4), (5, .int v3), (6, .int v15)]) C dX0_spread_113 (by decide) rfl ?_
  refine aw_aload_n (pc := 115) C dX0_spread_115 rfl 2 rfl ?_
  refine aw_aload_n (pc := 116) C dX0_spread_116 rfl 2 rfl ?_
  refine aw_iload (pc := 117) C dX0_spread_117 1 rfl ?_
  refine aw_iload (pc := 119) C dX0_spread_119 0 rfl ?_
  refine aw_callVI (pc := 121) (R := rmX0_spread) (c := 0) (As := [.int v28, .int v37]) (rest := [rf E a0]) (st := [.int v37, .int v28, rf E a0, rf E a0]) (c' := 0) (s' := 0) C hE rfl (by decide) cal_X0_cellAt ml_X0_57 rfl ⟨(Nat.le_of_ble_eq_true rfl), (Nat.le_of_ble_eq_true rfl)⟩ ⟨(Nat.le_of_ble_eq_true rfl), (Nat.le_of_ble_eq_true rfl)⟩ dX0_spread_121 (okX0_cellAt E (kL K) a0 v28 v37 h35) rfl (Nat.le_of_ble_eq_true rfl) rfl rfl (fun v39 h38 eh38 => ?_)
  refine aw_iload_n (pc := 124) C dX0_spread_124 rfl 4 rfl ?_
  refine aw_callVI (pc := 125) (R := rmX0_spread) (c := 0) (As := [.int v39, .int v14]) (rest := []) (st := [.int v14, .int v39, rf E a0]) (c' := 0) (s' := 0) C hE rfl (by decide) cal_X0_await ml_X0_82 rfl ⟨(Nat.le_of_ble_eq_true rfl), (Nat.le_of_ble_eq_true rfl)⟩ ⟨(Nat.le_of_ble_eq_true rfl), (Nat.le_of_ble_eq_true rfl)⟩ dX0_spread_125 (okX0_await E (kL K) a0 v39 v14 h38) rfl (Nat.le_of_ble_eq_true rfl) rfl rfl (fun v41 h40 eh40 => ?_)
  refine aw_istore_n (pc := 128) (L' := [(3, .int v41), (8, .int v37), (7, .int v28), (0, rf E a0), (2, rf E a2), (4, .int v4), (5, .int v3), (6, .int v15)]) C dX0_spread_128 rfl (by decide) rfl ?_
  refine aw_iincN (pc := 129) (L1 := [(3, .int v41), (8, .int v37), (7, .int v28), (0, rf E a0), (2, rf E a2), (4, .int v4), (5, .int v3)]) (k := 1) C dX0_spread_129 7 rfl (by decide) (by decide) rfl (fun v42 ev42 => ?_)
  refine aw_goto (pc := 132) C 48 dX0_spread_132 (by decide) ?_
  exact aw_sub (L' := [(0, rf E a0), (2, rf E a2), (3, .int v41), (4, .int v4), (5, .int v3), (6, .int v42)]) [4, 5, 1, 6, 7, 0] rfl (ih18 (v41, v42, h40))
def rmX0_findFamilies : Room := { frames := 4, cells := 0, slots := 0, locals := 101 }
set_option maxHeartbeats 4000000 in
set_option maxRecDepth 100000 in
theorem okX0_findFamilies (E : Ev) (l : Launch) (a0 : Nat) (a1 : Nat) (h0 : Mem) : AMet E l yX0_findFamilies cX0_findFamilies 3 none rmX0_findFamilies [rf E a0, rf E a1] h0 rvV (fX0_findFamilies a0 a1 h0) := by
  refine am_intro (plainFor_of_name (by decide +kernel)) (Nat.le_of_ble_eq_true rfl) (fun K hKl C hr hnm hz0 => ?_)
  replace C : CxOK K E RX0 cX0_findFamilies 3 := C
  have hE : E.1 + 1 ≤ (kS K).heap.size := by omega
  unfold fX0_findFamilies
  show Aw K E _ _ _ _ _ 0 [(0, rf E a0), (1, rf E a1)] [] h0 _
  refine aw_aload_n (pc := 0) C dX0_findFamilies_0 rfl 0 rfl ?_
  refine aw_getI (pc := 1) C fl_X0_22 dX0_findFamilies_1 (fun v1 ev1 => ?_)
  refine aw_if_eq (pc := 4) C 8 dX0_findFamilies_4 (by decide) (fun c21 => ?_) (fun c21 => ?_)
  · refine aw_aload_n (pc := 8) C dX0_findFamilies_8 rfl 0 rfl ?_
    refine aw_iconst (pc := 9) (v := 1) C dX0_findFamilies_9 (by decide) ?_
    refine aw_putI (pc := 10) C fw_X0_22 rfl rfl dX0_findFamilies_10 (fun h2 eh2 => ?_)
    refine aw_aload_n (pc := 13) C dX0_findFamilies_13 rfl 1 rfl ?_
    refine aw_aload_n (pc := 14) C dX0_findFamilies_14 rfl 0 rfl ?_
    refine aw_getR (pc := 15) C fl_X0_28 dX0_findFamilies_15 (fun v3 ev3 => ?_)
    refine aw_getR (pc := 18) C fl_X0_65 dX0_findFamilies_18 (fun v4 ev4 => ?_)
    refine aw_callVV (pc := 21) (R := rmX0_findFamilies) (c := 8) (As := [rf E v4]) (rest := []) (st := [rf E v4, rf E a1]) (c' := 0) (s' := 0) C hE rfl (by decide) cal_X8_look ml_X0_69 rfl ⟨(Nat.le_of_ble_eq_true rfl), (Nat.le_of_ble_eq_true rfl)⟩ ⟨(Nat.le_of_ble_eq_true rfl), (Nat.le_of_ble_eq_true rfl)⟩ dX0_findFamilies_21 (okX8_look E (kL K) a1 v4 h2) rfl (Nat.le_of_ble_eq_true rfl) rfl rfl (fun _u h5 eh5 => ?_)
    refine aw_iconst (pc := 24) (v := 0) C dX0_findFamilies_24 (by decide) ?_
    refine aw_istore_n (pc := 25) (L' := [(2, .int 0), (0, rf E a0), (1, rf E a1)]) C dX0_findFamilies_25 rfl (by decide) rfl ?_
    refine aw_sub (L' := [(0, rf E a0), (1, rf E a1), (2, .int 0)]) [1, 2, 0] rfl ?_
    refine aw_loop (pc := 26) (σ := Int32 × Mem) (fun s => [(0, rf E a0), (1, rf E a1), (2, .int s.1)]) (fun s => s.2) _ (fun k8 ih9 s => ?_) _ _
    obtain ⟨v6, h7⟩ := s
    show Aw K E _ _ _ _ _ 26 [(0, rf E a0), (1, rf E a1), (2, .int v6)] [] h7 _
    refine aw_iload_n (pc := 26) C dX0_findFamilies_26 rfl 2 rfl ?_
    refine aw_aload_n (pc := 27) C dX0_findFamilies_27 rfl 0 rfl ?_
    refine aw_getR (pc := 28) C fl_X0_32 dX0_findFamilies_28 (fun v10 ev10 => ?_)
    refine aw_arraylength (pc := 31) C dX0_findFamilies_31 (fun v11 ev11 => ?_)
    refine aw_icmp_ge (pc := 32) C 68 dX0_findFamilies_32 (by decide) (fun c20 => ?_) (fun c20 => ?_)
    · exact aw_return (pc := 68) C hr hz0 rfl dX0_findFamilies_68
    refine aw_aload_n (pc := 35) C dX0_findFamilies_35 rfl 0 rfl ?_
    refine aw_getR (pc := 36) C fl_X0_32 dX0_findFamilies_36 (fun v12 ev12 => ?_)
    refine aw_iload_n (pc := 39) C dX0_findFamilies_39 rfl 2 rfl ?_
    refine aw_iaload (pc := 40) C dX0_findFamilies_40 (fun v13 ev13 => ?_)
    refine aw_bipush (pc := 41) (v := (-2)) C dX0_findFamilies_41 (by decide) ?_
    refine aw_icmp_ne (pc := 43) C 62 dX0_findFamilies_43 (by decide) (fun c19 => ?_) (fun c19 => ?_)
    · refine aw_aload_n (pc := 46) C dX0_findFamilies_46 rfl 0 rfl ?_
      refine aw_iload_n (pc := 47) C dX0_findFamilies_47 rfl 2 rfl ?_
      refine aw_aload_n (pc := 48) C dX0_findFamilies_48 rfl 1 rfl ?_
      refine aw_callVV (pc := 49) (R := rmX0_findFamilies) (c := 0) (As := [.int v6, rf E a1]) (rest := []) (st := [rf E a1, .int v6, rf E a0]) (c' := 0) (s' := 0) C hE rfl (by decide) cal_X0_spread ml_X0_75 rfl ⟨(Nat.le_of_ble_eq_true rfl), (Nat.le_of_ble_eq_true rfl)⟩ ⟨(Nat.le_of_ble_eq_true rfl), (Nat.le_of_ble_eq_true rfl)⟩ dX0_findFamilies_49 (okX0_spread E (kL K) a0 v6 a1 h7) rfl (Nat.le_of_ble_eq_true rfl) rfl rfl (fun _u h14 eh14 => ?_)
      refine aw_aload_n (pc := 52) C dX0_findFamilies_52 rfl 0 rfl ?_
      refine aw_dup (pc := 53) C rfl dX0_findFamilies_53 ?_
      refine aw_getI (pc := 54) C fl_X0_15 dX0_findFamilies_54 (fun v15 ev15 => ?_)
      refine aw_iconst (pc := 57) (v := 1) C dX0_findFamilies_57 (by decide) ?_
      refine aw_iadd (pc := 58) C dX0_findFamilies_58 ?_
      refine aw_putI (pc := 59) C fw_X0_15 rfl rfl dX0_findFamilies_59 (fun h16 eh16 => ?_)
      refine aw_iincN (pc := 62) (L1 := [(0, rf E a0), (1, rf E a1)]) (k := 1) C dX0_findFamilies_62 2 rfl (by decide) (by decide) rfl (fun v17 ev17 => ?_)
      refine aw_goto (pc := 65) C 26 dX0_findFamilies_65 (by decide) ?_
      exact aw_sub (L' := [(0, rf E a0), (1, rf E a1), (2, .int v17)]) [1, 2, 0] rfl (ih9 (v17, h16))
    refine aw_iincN (pc := 62) (L1 := [(0, rf E a0), (1, rf E a1)]) (k := 1) C dX0_findFamilies_62 2 rfl (by decide) (by decide) rfl (fun v18 ev18 => ?_)
    refine aw_goto (pc := 65) C 26 dX0_findFamilies_65 (by decide) ?_
    exact aw_sub (L' := [(0, rf E a0), (1, rf E a1), (2, .int v18)]) [1, 2, 0] rfl (ih9 (v18, h7))
  exact aw_return (pc := 7) C hr hz0 rfl dX0_findFamilies_7
