def rmX1_addToM : Room := { frames := 1, cells := 0, slots := 0, locals := 22 }
set_option maxHeartbeats 4000000 in
set_option maxRecDepth 100000 in
theorem okX1_addToM (E : Ev) (l : Launch) (a0 : Nat) (a1 : Int32) (h0 : Mem) : AMet E l yX1_addToM cX1_addToM 2 none rmX1_addToM [rf E a0, .int a1] h0 rvV (fX1_addToM a0 a1 h0) := by
  refine am_intro (plainFor_of_name (by decide +kernel)) (Nat.le_of_ble_eq_true rfl) (fun K hKl C hr hnm hz0 => ?_)
  replace C : CxOK K E RX1 cX1_addToM 2 := C
  have hE : E.1 + 1 ≤ (kS K).heap.size := by omega
  unfold fX1_addToM
  show Aw K E _ _ _ _ _ 0 [(0, rf E a0), (1, .int a1)] [] h0 _
  refine aw_aload_n (pc := 0) C dX1_addToM_0 rfl 0 rfl ?_
  refine aw_getI (pc := 1) C fl_X1_18 dX1_addToM_1 (fun v1 ev1 => ?_)
  refine aw_iload_n (pc := 4) C dX1_addToM_4 rfl 1 rfl ?_
  refine aw_iadd (pc := 5) C dX1_addToM_5 ?_
  refine aw_sipush (pc := 6) (v := (-9999)) C dX1_addToM_6 (by decide) ?_
  refine aw_sipush (pc := 9) (v := 9999) C dX1_addToM_9 (by decide) ?_
  refine aw_callSNI (pc := 12) (R := rmX1_addToM) (As := [.int (v1 + a1), .int (-9999), .int 9999]) (rest := []) (st := [.int 9999, .int (-9999), .int (v1 + a1)]) (c' := 0) (s' := 0) C hE cal_X9_between ml_X1_61 rfl ⟨(Nat.le_of_ble_eq_true rfl), (Nat.le_of_ble_eq_true rfl)⟩ ⟨(Nat.le_of_ble_eq_true rfl), (Nat.le_of_ble_eq_true rfl)⟩ dX1_addToM_12 (okX9_between E (kL K) (v1 + a1) (-9999) 9999 h0) rfl (Nat.le_of_ble_eq_true rfl) rfl rfl (fun v3 h2 eh2 => ?_)
  refine aw_if_eq (pc := 15) C 28 dX1_addToM_15 (by decide) (fun c6 => ?_) (fun c6 => ?_)
  · exact aw_return (pc := 28) C hr hz0 rfl dX1_addToM_28
  refine aw_aload_n (pc := 18) C dX1_addToM_18 rfl 0 rfl ?_
  refine aw_dup (pc := 19) C rfl dX1_addToM_19 ?_
  refine aw_getI (pc := 20) C fl_X1_18 dX1_addToM_20 (fun v4 ev4 => ?_)
  refine aw_iload_n (pc := 23) C dX1_addToM_23 rfl 1 rfl ?_
  refine aw_iadd (pc := 24) C dX1_addToM_24 ?_
  refine aw_putI (pc := 25) C fw_X1_18 rfl rfl dX1_addToM_25 (fun h5 eh5 => ?_)
  exact aw_return (pc := 28) C hr hz0 rfl dX1_addToM_28
def rmX9_tryEvents : Room := { frames := 4, cells := 0, slots := 0, locals := 122 }
set_option maxHeartbeats 4000000 in
set_option maxRecDepth 100000 in
theorem okX9_tryEvents (E : Ev) (l : Launch) (a0 : Nat) (h0 : Mem) : AMet E l yX9_tryEvents cX9_tryEvents 3 none rmX9_tryEvents [rf E a0] h0 rvV (fX9_tryEvents a0 h0) := by
  refine am_intro (plainFor_of_name (by decide +kernel)) (Nat.le_of_ble_eq_true rfl) (fun K hKl C hr hnm hz0 => ?_)
  replace C : CxOK K E RX9 cX9_tryEvents 3 := C
  have hE : E.1 + 1 ≤ (kS K).heap.size := by omega
  unfold fX9_tryEvents
  show Aw K E _ _ _ _ _ 0 [(0, rf E a0)] [] h0 _
  refine aw_aload_n (pc := 0) C dX9_tryEvents_0 rfl 0 rfl ?_
  refine aw_getR (pc := 1) C fl_X9_28 dX9_tryEvents_1 (fun v1 ev1 => ?_)
  refine aw_aload_n (pc := 4) C dX9_tryEvents_4 rfl 0 rfl ?_
  refine aw_getR (pc := 5) C fl_X9_12 dX9_tryEvents_5 (fun v2 ev2 => ?_)
  refine aw_getR (pc := 8) C fl_X9_71 dX9_tryEvents_8 (fun v3 ev3 => ?_)
  refine aw_callVV (pc := 11) (R := rmX9_tryEvents) (c := 1) (As := [rf E v3]) (rest := []) (st := [rf E v3, rf E v1]) (c' := 0) (s' := 0) C hE rfl (by decide) cal_X1_copy ml_X9_340 rfl ⟨(Nat.le_of_ble_eq_true rfl), (Nat.le_of_ble_eq_true rfl)⟩ ⟨(Nat.le_of_ble_eq_true rfl), (Nat.le_of_ble_eq_true rfl)⟩ dX9_tryEvents_11 (okX1_copy E (kL K) v1 v3 h0) rfl (Nat.le_of_ble_eq_true rfl) rfl rfl (fun _u h4 eh4 => ?_)
  refine aw_iconst (pc := 14) (v := 0) C dX9_tryEvents_14 (by decide) ?_
  refine aw_istore_n (pc := 15) (L' := [(1, .int 0), (0, rf E a0)]) C dX9_tryEvents_15 rfl (by decide) rfl ?_
  refine aw_sub (L' := [(0, rf E a0), (1, .int 0)]) [1, 0] rfl ?_
  refine aw_loop (pc := 16) (σ := Int32 × Mem) (fun s => [(0, rf E a0), (1, .int s.1)]) (fun s => s.2) _ (fun k7 ih8 s => ?_) _ _
  obtain ⟨v5, h6⟩ := s
  show Aw K E _ _ _ _ _ 16 [(0, rf E a0), (1, .int v5)] [] h6 _
  refine aw_iload_n (pc := 16) C dX9_tryEvents_16 rfl 1 rfl ?_
  refine aw_aload_n (pc := 17) C dX9_tryEvents_17 rfl 0 rfl ?_
  refine aw_getR (pc := 18) C fl_X9_12 dX9_tryEvents_18 (fun v9 ev9 => ?_)
  refine aw_getR (pc := 21) C fl_X9_244 dX9_tryEvents_21 (fun v10 ev10 => ?_)
  refine aw_getI (pc := 24) C fl_X9_133 dX9_tryEvents_24 (fun v11 ev11 => ?_)
  refine aw_icmp_ge (pc := 27) C 123 dX9_tryEvents_27 (by decide) (fun c34 => ?_) (fun c34 => ?_)
  · exact aw_return (pc := 123) C hr hz0 rfl dX9_tryEvents_123
  refine aw_aload_n (pc := 30) C dX9_tryEvents_30 rfl 0 rfl ?_
  refine aw_getR (pc := 31) C fl_X9_12 dX9_tryEvents_31 (fun v12 ev12 => ?_)
  refine aw_getR (pc := 34) C fl_X9_244 dX9_tryEvents_34 (fun v13 ev13 => ?_)
  refine aw_iload_n (pc := 37) C dX9_tryEvents_37 rfl 1 rfl ?_
  refine aw_callVI (pc := 38) (R := rmX9_tryEvents) (c := 4) (As := [.int v5]) (rest := []) (st := [.int v5, rf E v13]) (c' := 0) (s' := 0) C hE rfl (by decide) cal_X4_second ml_X9_262 rfl ⟨(Nat.le_of_ble_eq_true rfl), (Nat.le_of_ble_eq_true rfl)⟩ ⟨(Nat.le_of_ble_eq_true rfl), (Nat.le_of_ble_eq_true rfl)⟩ dX9_tryEvents_38 (okX4_second E (kL K) v13 v5 h6) rfl (Nat.le_of_ble_eq_true rfl) rfl rfl (fun v15 h14 eh14 => ?_)
  refine aw_istore_n (pc := 41) (L' := [(2, .int v15), (0, rf E a0), (1, .int v5)]) C dX9_tryEvents_41 rfl (by decide) rfl ?_
  refine aw_aload_n (pc := 42) C dX9_tryEvents_42 rfl 1 rfl ?_
  refine aw_getR (pc := 43) C fl_X9_12 dX9_tryEvents_43 (fun v16 ev16 => ?_)
  refine aw_getR (pc := 46) C fl_X9_244 dX9_tryEvents_46 (fun v17 ev17 => ?_)
  refine aw_iload_n (pc := 49) C dX9_tryEvents_49 rfl 2 rfl ?_
  refine aw_callVI (pc := 50) (R := rmX9_tryEvents) (c := 4) (As := [.int v5]) (rest := []) (st := [.int v5, rf E v17]) (c' := 0) (s' := 0) C hE rfl (by decide) cal_X4_first ml_X9_259 rfl ⟨(Nat.le_of_ble_eq_true rfl), (Nat.le_of_ble_eq_true rfl)⟩ ⟨(Nat.le_of_ble_eq_true rfl), (Nat.le_of_ble_eq_true rfl)⟩ dX9_tryEvents_50 (okX4_first E (kL K) v17 v5 h14) rfl (Nat.le_of_ble_eq_true rfl) rfl rfl (fun v19 h18 eh18 => ?_)
  refine aw_case 0 (fun c20 => ?_) (fun c20 => ?_)
  · refine aw_lookup (pc := 53) (off := 27) C 80 dX9_tryEvents_53 (by decide +kernel) (by rw [c20]; decide +kernel) (by decide) ?_
    refine aw_aload_n (pc := 80) C dX9_tryEvents_80 rfl 1 rfl ?_
    refine aw_getR (pc := 81) C fl_X9_28 dX9_tryEvents_81 (fun v21 ev21 => ?_)
    refine aw_getR (pc := 84) C fl_X9_74 dX9_tryEvents_84 (fun v22 ev22 => ?_)
    refine aw_iload_n (pc := 87) C dX9_tryEvents_87 rfl 0 rfl ?_
    refine aw_callVV (pc := 88) (R := rmX9_tryEvents) (c := 2) (As := [.int v15]) (rest := []) (st := [.int v15, rf E v22]) (c' := 0) (s' := 0) C hE rfl (by decide) cal_X2_raise ml_X9_342 rfl ⟨(Nat.le_of_ble_eq_true rfl), (Nat.le_of_ble_eq_true rfl)⟩ ⟨(Nat.le_of_ble_eq_true rfl), (Nat.le_of_ble_eq_true rfl)⟩ dX9_tryEvents_88 (okX2_raise E (kL K) v22 v15 h18) rfl (Nat.le_of_ble_eq_true rfl) rfl rfl (fun _u h23 eh23 => ?_)
    refine aw_goto (pc := 91) C 117 dX9_tryEvents_91 (by decide) ?_
    refine aw_iincN (pc := 117) (L1 := [(2, .int v15), (0, rf E a0)]) (k := 1) C dX9_tryEvents_117 2 rfl (by decide) (by decide) rfl (fun v24 ev24 => ?_)
    refine aw_goto (pc := 120) C 16 dX9_tryEvents_120 (by decide) ?_
    exact aw_sub (L' := [(0, rf E a0), (1, .int v24)]) [2, 0] rfl (ih8 (v24, h23))
  refine aw_case 1 (fun c25 => ?_) (fun c25 => ?_)
  · refine aw_lookup (pc := 53) (off := 41) C 94 dX9_tryEvents_53 (by decide +kernel) (by rw [c25]; decide +kernel) (by decide) ?_
    refine aw_aload_n (pc := 94) C dX9_tryEvents_94 rfl 1 rfl ?_
    refine aw_getR (pc := 95) C fl_X9_28 dX9_tryEvents_95 (fun v26 ev26 => ?_)
    refine aw_getR (pc := 98) C fl_X9_74 dX9_tryEvents_98 (fun v27 ev27 => ?_)
    refine aw_iload_n (pc := 101) C dX9_tryEvents_101 rfl 0 rfl ?_
    refine aw_callVI (pc := 102) (R := rmX9_tryEvents) (c := 2) (As := [.int v15]) (rest := []) (st := [.int v15, rf E v27]) (c' := 0) (s' := 0) C hE rfl (by decide) cal_X2_moveBy ml_X9_109 rfl ⟨(Nat.le_of_ble_eq_true rfl), (Nat.le_of_ble_eq_true rfl)⟩ ⟨(Nat.le_of_ble_eq_true rfl), (Nat.le_of_ble_eq_true rfl)⟩ dX9_tryEvents_102 (okX2_moveBy E (kL K) v27 v15 h18) rfl (Nat.le_of_ble_eq_true rfl) rfl rfl (fun v29 h28 eh28 => ?_)
    refine aw_pop (pc := 105) C rfl dX9_tryEvents_105 ?_
    refine aw_goto (pc := 106) C 117 dX9_tryEvents_106 (by decide) ?_
    refine aw_iincN (pc := 117) (L1 := [(2, .int v15), (0, rf E a0)]) (k := 1) C dX9_tryEvents_117 2 rfl (by decide) (by decide) rfl (fun v30 ev30 => ?_)
    refine aw_goto (pc := 120) C 16 dX9_tryEvents_120 (by decide) ?_
    exact aw_sub (L' := [(0, rf E a0), (1, .int v30)]) [2, 0] rfl (ih8 (v30, h28))
  refine aw_lookup (pc := 53) (off := 56) C 109 dX9_tryEvents_53 (by decide +kernel) (by rw [lv_osw c20 (show (0 : Int32).toInt = 0 by decide)]; rw [lv_osw c25 (show (1 : Int32).toInt = 1 by decide)]; rfl) (by decide) ?_
  refine aw_aload_n (pc := 109) C dX9_tryEvents_109 rfl 1 rfl ?_
  refine aw_getR (pc := 110) C fl_X9_28 dX9_tryEvents_110 (fun v31 ev31 => ?_)
  refine aw_iload_n (pc := 113) C dX9_tryEvents_113 rfl 0 rfl ?_
  refine aw_callVV (pc := 114) (R := rmX9_tryEvents) (c := 1) (As := [.int v15]) (rest := []) (st := [.int v15, rf E v31]) (c' := 0) (s' := 0) C hE rfl (by decide) cal_X1_addToM ml_X9_345 rfl ⟨(Nat.le_of_ble_eq_true rfl), (Nat.le_of_ble_eq_true rfl)⟩ ⟨(Nat.le_of_ble_eq_true rfl), (Nat.le_of_ble_eq_true rfl)⟩ dX9_tryEvents_114 (okX1_addToM E (kL K) v31 v15 h18) rfl (Nat.le_of_ble_eq_true rfl) rfl rfl (fun _u h32 eh32 => ?_)
  refine aw_iincN (pc := 117) (L1 := [(2, .int v15), (0, rf E a0)]) (k := 1) C dX9_tryEvents_117 2 rfl (by decide) (by decide) rfl (fun v33 ev33 => ?_)
  refine aw_goto (pc := 120) C 16 dX9_tryEvents_120 (by decide) ?_
  exact aw_sub (L' := [(0, rf E a0), (1, .int v33)]) [2, 0] rfl (ih8 (v33, h32))
def rmX1_howManyAnswers : Room := { frames := 1, cells := 0, slots := 0, locals := 29 }
set_option maxHeartbeats 4000000 in
set_option maxRecDepth 100000 in
theorem okX1_howManyAnswers (E : Ev) (l : Launch) (a0 : Nat) (h0 : Mem) : AMet E l yX1_howManyAnswers cX1_howManyAnswers 4 (some (.int)) rmX1_howManyAnswers [rf E a0] h0 rvI (fX1_howManyAnswers a0 h0) := by
  refine am_intro (plainFor_of_name (by decide +kernel)) (Nat.le_of_ble_eq_true rfl) (fun K hKl C hr hnm hz0 => ?_)
  replace C : CxOK K E RX1 cX1_howManyAnswers 4 := C
  have hE : E.1 + 1 ≤ (kS K).heap.size := by omega
  unfold fX1_howManyAnswers
  show Aw K E _ _ _ _ _ 0 [(0, rf E a0)] [] h0 _
  refine aw_iconst (pc := 0) (v := 0) C dX1_howManyAnswers_0 (by decide) ?_
  refine aw_istore_n (pc := 1) (L' := [(1, .int 0), (0, rf E a0)]) C dX1_howManyAnswers_1 rfl (by decide) rfl ?_
  refine aw_aload_n (pc := 2) C dX1_howManyAnswers_2 rfl 1 rfl ?_
  refine aw_getI (pc := 3) C fl_X1_22 dX1_howManyAnswers_3 (fun v1 ev1 => ?_)
  refine aw_ineg (pc := 6) C dX1_howManyAnswers_6 ?_
  refine aw_nmI (pc := 7) (fun v2 ev2 => ?_)
  refine aw_istore_n (pc := 7) (L' := [(2, .int v2), (1, .int 0), (0, rf E a0)]) C dX1_howManyAnswers_7 rfl (by decide) rfl ?_
  refine aw_sub (L' := [(0, rf E a0), (1, .int 0), (2, .int v2)]) [2, 1, 0] rfl ?_
  refine aw_loop (pc := 8) (σ := Int32 × Int32 × Mem) (fun s => [(0, rf E a0), (1, .int s.1), (2, .int s.2.1)]) (fun s => s.2.2) _ (fun k6 ih7 s => ?_) _ _
  obtain ⟨v3, v4, h5⟩ := s
  show Aw K E _ _ _ _ _ 8 [(0, rf E a0), (1, .int v3), (2, .int v4)] [] h5 _
  refine aw_iload_n (pc := 8) C dX1_howManyAnswers_8 rfl 2 rfl ?_
  refine aw_aload_n (pc := 9) C dX1_howManyAnswers_9 rfl 0 rfl ?_
  refine aw_getI (pc := 10) C fl_X1_22 dX1_howManyAnswers_10 (fun v8 ev8 => ?_)
  refine aw_icmp_gt (pc := 13) C 65 dX1_howManyAnswers_13 (by decide) (fun c27 => ?_) (fun c27 => ?_)
  · refine aw_iload_n (pc := 65) C dX1_howManyAnswers_65 rfl 1 rfl ?_
    exact aw_ireturn (pc := 66) C hr rfl hz0 rfl dX1_howManyAnswers_66
  refine aw_aload_n (pc := 16) C dX1_howManyAnswers_16 rfl 0 rfl ?_
  refine aw_getI (pc := 17) C fl_X1_22 dX1_howManyAnswers_17 (fun v9 ev9 => ?_)
  refine aw_ineg (pc := 20) C dX1_howManyAnswers_20 ?_
  refine aw_nmI (pc := 21) (fun v10 ev10 => ?_)
  refine aw_istore_n (pc := 21) (L' := [(3, .int v10), (0, rf E a0), (1, .int v3), (2, .int v4)]) C dX1_howManyAnswers_21 rfl (by decide) rfl ?_
  refine aw_sub (L' := [(0, rf E a0), (1, .int v3), (2, .int v4), (3, .int v10)]) [1, 2, 3, 0] rfl ?_
  refine aw_loop (pc := 22) (σ := Int32 × Int32 × Mem) (fun s => [(0, rf E a0), (1, .int s.1), (2, .int v4), (3, .int s.2.1)]) (fun s => s.2.2) _ (fun k14 ih15 s => ?_) _ _
  obtain ⟨v11, v12, h13⟩ := s
  show Aw K E _ _ _ _ _ 22 [(0, rf E a0), (1, .int v11), (2, .int v4), (3, .int v12)] [] h13 _
  refine aw_iload_n (pc := 22) C dX1_howManyAnswers_22 rfl 3 rfl ?_
  refine aw_aload_n (pc := 23) C dX1_howManyAnswers_23 rfl 0 rfl ?_
  refine aw_getI (pc := 24) C fl_X1_22 dX1_howManyAnswers_24 (fun v16 ev16 => ?_)
  refine aw_icmp_gt (pc := 27) C 59 dX1_howManyAnswers_27 (by decide) (fun c26 => ?_) (fun c26 => ?_)
  · refine aw_iincN (pc := 59) (L1 := [(0, rf E a0), (1, .int v11), (3, .int v12)]) (k := 1) C dX1_howManyAnswers_59 2 rfl (by decide) (by decide) rfl (fun v25 ev25 => ?_)
    refine aw_goto (pc := 62) C 8 dX1_howManyAnswers_62 (by decide) ?_
    exact aw_sub (L' := [(0, rf E a0), (1, .int v11), (2, .int v25)]) [1, 2, 0] rfl (ih7 (v11, v25, h13))
  refine aw_aload_n (pc := 30) C dX1_howManyAnswers_30 rfl 0 rfl ?_
  refine aw_getR (pc := 31) C fl_X1_12 dX1_howManyAnswers_31 (fun v17 ev17 => ?_)
  refine aw_iload_n (pc := 34) C dX1_howManyAnswers_34 rfl 2 rfl ?_
  refine aw_i2l (pc := 35) C dX1_howManyAnswers_35 ?_
  refine aw_iload_n (pc := 36) C dX1_howManyAnswers_36 rfl 3 rfl ?_
  refine aw_i2l (pc := 37) C dX1_howManyAnswers_37 ?_
  refine aw_callVJ (pc := 38) (R := rmX1_howManyAnswers) (c := 2) (As := [.long v4.toInt64, .long v12.toInt64]) (rest := []) (st := [.long v12.toInt64, .long v4.toInt64, rf E v17]) (c' := 0) (s' := 0) C hE rfl (by decide) cal_X2_at ml_X1_37 rfl ⟨(Nat.le_of_ble_eq_true rfl), (Nat.le_of_ble_eq_true rfl)⟩ ⟨(Nat.le_of_ble_eq_true rfl), (Nat.le_of_ble_eq_true rfl)⟩ dX1_howManyAnswers_38 (okX2_at E (kL K) v17 v4.toInt64 v12.toInt64 h13) rfl (Nat.le_of_ble_eq_true rfl) rfl rfl (fun v19 h18 eh18 => ?_)
  refine aw_aload_n (pc := 41) C dX1_howManyAnswers_41 rfl 0 rfl ?_
  refine aw_getI (pc := 42) C fl_X1_18 dX1_howManyAnswers_42 (fun v20 ev20 => ?_)
  refine aw_i2l (pc := 45) C dX1_howManyAnswers_45 ?_
  refine aw_lcmp (pc := 46) C dX1_howManyAnswers_46 ?_
  refine aw_if_ne (pc := 47) C 53 dX1_howManyAnswers_47 (by decide) (fun c24 => ?_) (fun c24 => ?_)
  · refine aw_iincN (pc := 50) (L1 := [(0, rf E a0), (2, .int v4), (3, .int v12)]) (k := 1) C dX1_howManyAnswers_50 1 rfl (by decide) (by decide) rfl (fun v21 ev21 => ?_)
    refine aw_iincN (pc := 53) (L1 := [(1, .int v21), (0, rf E a0), (2, .int v4)]) (k := 1) C dX1_howManyAnswers_53 3 rfl (by decide) (by decide) rfl (fun v22 ev22 => ?_)
    refine aw_goto (pc := 56) C 22 dX1_howManyAnswers_56 (by decide) ?_
    exact aw_sub (L' := [(0, rf E a0), (1, .int v21), (2, .int v4), (3, .int v22)]) [2, 1, 3, 0] rfl (ih15 (v21, v22, h18))
  refine aw_iincN (pc := 53) (L1 := [(0, rf E a0), (1, .int v11), (2, .int v4)]) (k := 1) C dX1_howManyAnswers_53 3 rfl (by decide) (by decide) rfl (fun v23 ev23 => ?_)
  refine aw_goto (pc := 56) C 22 dX1_howManyAnswers_56 (by decide) ?_
  exact aw_sub (L' := [(0, rf E a0), (1, .int v11), (2, .int v4), (3, .int v23)]) [1, 2, 3, 0] rfl (ih15 (v11, v23, h18))
def rmX9_after : Room := { frames := 5, cells := 0, slots := 0, locals := 144 }
set_option maxHeartbeats 4000000 in
set_option maxRecDepth 100000 in
theorem okX9_after (E : Ev) (l : Launch) (a0 : Nat) (a1 : Int32) (h0 : Mem) : AMet E l yX9_after cX9_after 2 (some (.int)) rmX9_after [rf E a0, .int a1] h0 rvI (fX9_after a0 a1 h0) := by
  refine am_intro (plainFor_of_name (by decide +kernel)) (Nat.le_of_ble_eq_true rfl) (fun K hKl C hr hnm hz0 => ?_)
  replace C : CxOK K E RX9 cX9_after 2 := C
  have hE : E.1 + 1 ≤ (kS K).heap.size := by omega
  unfold fX9_after
  show Aw K E _ _ _ _ _ 0 [(0, rf E a0), (1, .int a1)] [] h0 _
  refine aw_iload_n (pc := 0) C dX9_after_0 rfl 1 rfl ?_
  refine aw_iconst (pc := 1) (v := 0) C dX9_after_1 (by decide) ?_
  refine aw_iconst (pc := 2) (v := 2) C dX9_after_2 (by decide) ?_
  refine aw_callSI (pc := 3) (R := rmX9_after) (As := [.int a1, .int 0, .int 2]) (rest := []) (st := [.int 2, .int 0, .int a1]) (c' := 0) (s' := 0) C hE cal_X9_between ml_X9_67 rfl ⟨(Nat.le_of_ble_eq_true rfl), (Nat.le_of_ble_eq_true rfl)⟩ ⟨(Nat.le_of_ble_eq_true rfl), (Nat.le_of_ble_eq_true rfl)⟩ dX9_after_3 (okX9_between E (kL K) a1 0 2 h0) rfl (Nat.le_of_ble_eq_true rfl) rfl rfl (fun v2 h1 eh1 => ?_)
  refine aw_if_ne (pc := 6) C 11 dX9_after_6 (by decide) (fun c18 => ?_) (fun c18 => ?_)
  · refine aw_iconst (pc := 9) (v := (-1)) C dX9_after_9 (by decide) ?_
    exact aw_ireturn (pc := 10) C hr rfl hz0 rfl dX9_after_10
  refine aw_aload_n (pc := 11) C dX9_after_11 rfl 0 rfl ?_
  refine aw_callVV (pc := 12) (R := rmX9_after) (c := 9) (As := []) (rest := []) (st := [rf E a0]) (c' := 0) (s' := 0) C hE rfl (by decide) cal_X9_tryEvents ml_X9_247 rfl ⟨(Nat.le_of_ble_eq_true rfl), (Nat.le_of_ble_eq_true rfl)⟩ ⟨(Nat.le_of_ble_eq_true rfl), (Nat.le_of_ble_eq_true rfl)⟩ dX9_after_12 (okX9_tryEvents E (kL K) a0 h1) rfl (Nat.le_of_ble_eq_true rfl) rfl rfl (fun _u h3 eh3 => ?_)
  refine aw_iload_n (pc := 15) C dX9_after_15 rfl 1 rfl ?_
  refine aw_if_ne (pc := 16) C 27 dX9_after_16 (by decide) (fun c17 => ?_) (fun c17 => ?_)
  · refine aw_aload_n (pc := 19) C dX9_after_19 rfl 0 rfl ?_
    refine aw_getR (pc := 20) C fl_X9_28 dX9_after_20 (fun v4 ev4 => ?_)
    refine aw_callVI (pc := 23) (R := rmX9_after) (c := 1) (As := []) (rest := []) (st := [rf E v4]) (c' := 0) (s' := 0) C hE rfl (by decide) cal_X1_howManyAnswers ml_X9_250 rfl ⟨(Nat.le_of_ble_eq_true rfl), (Nat.le_of_ble_eq_true rfl)⟩ ⟨(Nat.le_of_ble_eq_true rfl), (Nat.le_of_ble_eq_true rfl)⟩ dX9_after_23 (okX1_howManyAnswers E (kL K) v4 h3) rfl (Nat.le_of_ble_eq_true rfl) rfl rfl (fun v6 h5 eh5 => ?_)
    exact aw_ireturn (pc := 26) C hr rfl hz0 rfl dX9_after_26
  refine aw_iload_n (pc := 27) C dX9_after_27 rfl 1 rfl ?_
  refine aw_iconst (pc := 28) (v := 1) C dX9_after_28 (by decide) ?_
  refine aw_icmp_ne (pc := 29) C 40 dX9_after_29 (by decide) (fun c16 => ?_) (fun c16 => ?_)
  · refine aw_aload_n (pc := 32) C dX9_after_32 rfl 0 rfl ?_
    refine aw_getR (pc := 33) C fl_X9_28 dX9_after_33 (fun v7 ev7 => ?_)
    refine aw_callVI (pc := 36) (R := rmX9_after) (c := 1) (As := []) (rest := []) (st := [rf E v7]) (c' := 0) (s' := 0) C hE rfl (by decide) cal_X1_firstBar ml_X9_196 rfl ⟨(Nat.le_of_ble_eq_true rfl), (Nat.le_of_ble_eq_true rfl)⟩ ⟨(Nat.le_of_ble_eq_true rfl), (Nat.le_of_ble_eq_true rfl)⟩ dX9_after_36 (okX1_firstBar E (kL K) v7 h3) rfl (Nat.le_of_ble_eq_true rfl) rfl rfl (fun v9 h8 eh8 => ?_)
    exact aw_ireturn (pc := 39) C hr rfl hz0 rfl dX9_after_39
  refine aw_aload_n (pc := 40) C dX9_after_40 rfl 0 rfl ?_
  refine aw_getR (pc := 41) C fl_X9_42 dX9_after_41 (fun v10 ev10 => ?_)
  refine aw_aload_n (pc := 44) C dX9_after_44 rfl 0 rfl ?_
  refine aw_getR (pc := 45) C fl_X9_28 dX9_after_45 (fun v11 ev11 => ?_)
  refine aw_getR (pc := 48) C fl_X9_74 dX9_after_48 (fun v12 ev12 => ?_)
  refine aw_callVV (pc := 51) (R := rmX9_after) (c := 8) (As := [rf E v12]) (rest := []) (st := [rf E v12, rf E v10]) (c' := 0) (s' := 0) C hE rfl (by decide) cal_X8_look ml_X9_253 rfl ⟨(Nat.le_of_ble_eq_true rfl), (Nat.le_of_ble_eq_true rfl)⟩ ⟨(Nat.le_of_ble_eq_true rfl), (Nat.le_of_ble_eq_true rfl)⟩ dX9_after_51 (okX8_look E (kL K) v10 v12 h3) rfl (Nat.le_of_ble_eq_true rfl) rfl rfl (fun _u h13 eh13 => ?_)
  refine aw_aload_n (pc := 54) C dX9_after_54 rfl 0 rfl ?_
  refine aw_getR (pc := 55) C fl_X9_42 dX9_after_55 (fun v14 ev14 => ?_)
  refine aw_getI (pc := 58) C fl_X9_148 dX9_after_58 (fun v15 ev15 => ?_)
  exact aw_ireturn (pc := 61) C hr rfl hz0 rfl dX9_after_61
def rmJ9_min_f86c9 : Room := { frames := 0, cells := 0, slots := 0, locals := 0 }
set_option maxHeartbeats 4000000 in
set_option maxRecDepth 100000 in
theorem okJ9_min_f86c9 (E : Ev) (l : Launch) (a0 : Int64) (a2 : Int64) (h0 : Mem) : AMet E l yJ9_min_f86c9 cJ9_min_f86c9 4 (some (.long)) rmJ9_min_f86c9 [.long a0, .long a2] h0 rvJ (fJ9_min_f86c9 a0 a2 h0) := by
  refine am_intro (mathPlain rfl rfl) (Nat.le_of_ble_eq_true rfl) (fun K hKl C hr hnm hz0 => ?_)
  replace C : CxOK K E RJ9 cJ9_min_f86c9 4 := C
  have hE : E.1 + 1 ≤ (kS K).heap.size := by omega
  unfold fJ9_min_f86c9
  show Aw K E _ _ _ _ _ 0 [(0, .long a0), (2, .long a2)] [] h0 _
  refine aw_lload_n (pc := 0) C dJ9_min_f86c9_0 rfl 0 rfl ?_
  refine aw_lload_n (pc := 1) C dJ9_min_f86c9_1 rfl 1 rfl ?_
  refine aw_lcmp (pc := 2) C dJ9_min_f86c9_2 ?_
  refine aw_if_gt (pc := 3) C 10 dJ9_min_f86c9_3 (by decide) (fun c1 => ?_) (fun c1 => ?_)
  · refine aw_lload_n (pc := 10) C dJ9_min_f86c9_10 rfl 1 rfl ?_
    exact aw_lreturn (pc := 11) C hr hz0 rfl dJ9_min_f86c9_11
  refine aw_lload_n (pc := 6) C dJ9_min_f86c9_6 rfl 0 rfl ?_
  refine aw_goto (pc := 7) C 11 dJ9_min_f86c9_7 (by decide) ?_
  exact aw_lreturn (pc := 11) C hr hz0 rfl dJ9_min_f86c9_11
def rmX9_book : Room := { frames := 1, cells := 0, slots := 0, locals := 24 }
set_option maxHeartbeats 4000000 in
set_option maxRecDepth 100000 in
theorem okX9_book (E : Ev) (l : Launch) (a0 : Nat) (a1 : Int32) (a2 : Int32) (h0 : Mem) : AMet E l yX9_book cX9_book 3 (some (.int)) rmX9_book [rf E a0, .int a1, .int a2] h0 rvI (fX9_book a0 a1 a2 h0) := by
  refine am_intro (plainFor_of_name (by decide +kernel)) (Nat.le_of_ble_eq_true rfl) (fun K hKl C hr hnm hz0 => ?_)
  replace C : CxOK K E RX9 cX9_book 3 := C
  have hE : E.1 + 1 ≤ (kS K).heap.size := by omega
  unfold fX9_book
  show Aw K E _ _ _ _ _ 0 [(0, rf E a0), (1, .int a1), (2, .int a2)] [] h0 _
  refine aw_iload_n (pc := 0) C dX9_book_0 rfl 1 rfl ?_
  refine aw_iconst (pc := 1) (v := (-1)) C dX9_book_1 (by decide) ?_
  refine aw_icmp_ne (pc := 2) C 16 dX9_book_2 (by decide) (fun c18 => ?_) (fun c18 => ?_)
  · refine aw_aload_n (pc := 5) C dX9_book_5 rfl 0 rfl ?_
    refine aw_getR (pc := 6) C fl_X9_12 dX9_book_6 (fun v1 ev1 => ?_)
    refine aw_getR (pc := 9) C fl_X9_256 dX9_book_9 (fun v2 ev2 => ?_)
    refine aw_callVI (pc := 12) (R := rmX9_book) (c := 4) (As := []) (rest := []) (st := [rf E v2]) (c' := 0) (s' := 0) C hE rfl (by decide) cal_X4_empty ml_X9_216 rfl ⟨(Nat.le_of_ble_eq_true rfl), (Nat.le_of_ble_eq_true rfl)⟩ ⟨(Nat.le_of_ble_eq_true rfl), (Nat.le_of_ble_eq_true rfl)⟩ dX9_book_12 (okX4_empty E (kL K) v2 h0) rfl (Nat.le_of_ble_eq_true rfl) rfl rfl (fun v4 h3 eh3 => ?_)
    exact aw_ireturn (pc := 15) C hr rfl hz0 rfl dX9_book_15
  refine aw_aload_n (pc := 16) C dX9_book_16 rfl 0 rfl ?_
  refine aw_getR (pc := 17) C fl_X9_12 dX9_book_17 (fun v5 ev5 => ?_)
  refine aw_getR (pc := 20) C fl_X9_71 dX9_book_20 (fun v6 ev6 => ?_)
  refine aw_getR (pc := 23) C fl_X9_74 dX9_book_23 (fun v7 ev7 => ?_)
  refine aw_iload_n (pc := 26) C dX9_book_26 rfl 1 rfl ?_
  refine aw_callVI (pc := 27) (R := rmX9_book) (c := 2) (As := [.int a1]) (rest := []) (st := [.int a1, rf E v7]) (c' := 0) (s' := 0) C hE rfl (by decide) cal_X2_has ml_X9_88 rfl ⟨(Nat.le_of_ble_eq_true rfl), (Nat.le_of_ble_eq_true rfl)⟩ ⟨(Nat.le_of_ble_eq_true rfl), (Nat.le_of_ble_eq_true rfl)⟩ dX9_book_27 (okX2_has E (kL K) v7 a1 h0) rfl (Nat.le_of_ble_eq_true rfl) rfl rfl (fun v9 h8 eh8 => ?_)
  refine aw_if_ne (pc := 30) C 35 dX9_book_30 (by decide) (fun c17 => ?_) (fun c17 => ?_)
  · refine aw_iconst (pc := 33) (v := (-1)) C dX9_book_33 (by decide) ?_
    exact aw_ireturn (pc := 34) C hr rfl hz0 rfl dX9_book_34
  refine aw_iload_n (pc := 35) C dX9_book_35 rfl 2 rfl ?_
  refine aw_bipush (pc := 36) (v := (-99)) C dX9_book_36 (by decide) ?_
  refine aw_bipush (pc := 38) (v := 99) C dX9_book_38 (by decide) ?_
  refine aw_callSI (pc := 40) (R := rmX9_book) (As := [.int a2, .int (-99), .int 99]) (rest := []) (st := [.int 99, .int (-99), .int a2]) (c' := 0) (s' := 0) C hE cal_X9_between ml_X9_67 rfl ⟨(Nat.le_of_ble_eq_true rfl), (Nat.le_of_ble_eq_true rfl)⟩ ⟨(Nat.le_of_ble_eq_true rfl), (Nat.le_of_ble_eq_true rfl)⟩ dX9_book_40 (okX9_between E (kL K) a2 (-99) 99 h8) rfl (Nat.le_of_ble_eq_true rfl) rfl rfl (fun v11 h10 eh10 => ?_)
  refine aw_if_ne (pc := 43) C 49 dX9_book_43 (by decide) (fun c16 => ?_) (fun c16 => ?_)
  · refine aw_bipush (pc := 46) (v := (-2)) C dX9_book_46 (by decide) ?_
    exact aw_ireturn (pc := 48) C hr rfl hz0 rfl dX9_book_48
  refine aw_aload_n (pc := 49) C dX9_book_49 rfl 0 rfl ?_
  refine aw_getR (pc := 50) C fl_X9_12 dX9_book_50 (fun v12 ev12 => ?_)
  refine aw_getR (pc := 53) C fl_X9_256 dX9_book_53 (fun v13 ev13 => ?_)
  refine aw_iload_n (pc := 56) C dX9_book_56 rfl 1 rfl ?_
  refine aw_iload_n (pc := 57) C dX9_book_57 rfl 2 rfl ?_
  refine aw_iconst (pc := 58) (v := 0) C dX9_book_58 (by decide) ?_
  refine aw_callVI (pc := 59) (R := rmX9_book) (c := 4) (As := [.int a1, .int a2, .int 0]) (rest := []) (st := [.int 0, .int a2, .int a1, rf E v13]) (c' := 0) (s' := 0) C hE rfl (by decide) cal_X4_add ml_X9_219 rfl ⟨(Nat.le_of_ble_eq_true rfl), (Nat.le_of_ble_eq_true rfl)⟩ ⟨(Nat.le_of_ble_eq_true rfl), (Nat.le_of_ble_eq_true rfl)⟩ dX9_book_59 (okX4_add E (kL K) v13 a1 a2 0 h10) rfl (Nat.le_of_ble_eq_true rfl) rfl rfl (fun v15 h14 eh14 => ?_)
  exact aw_ireturn (pc := 62) C hr rfl hz0 rfl dX9_book_62
def rmX9_looked : Room := { frames := 2, cells := 0, slots := 0, locals := 44 }
set_option maxHeartbeats 4000000 in
set_option maxRecDepth 100000 in
theorem okX9_looked (E : Ev) (l : Launch) (a0 : Nat) (h0 : Mem) : AMet E l yX9_looked cX9_looked 4 (some (.int)) rmX9_looked [rf E a0] h0 rvI (fX9_looked a0 h0) := by
  refine am_intro (plainFor_of_name (by decide +kernel)) (Nat.le_of_ble_eq_true rfl) (fun K hKl C hr hnm hz0 => ?_)
  replace C : CxOK K E RX9 cX9_looked 4 := C
  have hE : E.1 + 1 ≤ (kS K).heap.size := by omega
  unfold fX9_looked
  show Aw K E _ _ _ _ _ 0 [(0, rf E a0)] [] h0 _
  refine aw_aload_n (pc := 0) C dX9_looked_0 rfl 0 rfl ?_
  refine aw_getR (pc := 1) C fl_X9_12 dX9_looked_1 (fun v1 ev1 => ?_)
  refine aw_getR (pc := 4) C fl_X9_71 dX9_looked_4 (fun v2 ev2 => ?_)
  refine aw_getR (pc := 7) C fl_X9_74 dX9_looked_7 (fun v3 ev3 => ?_)
  refine aw_astore_n (pc := 10) (L' := [(1, rf E v3), (0, rf E a0)]) C dX9_looked_10 rfl (by decide) rfl ?_
  refine aw_iconst (pc := 11) (v := 0) C dX9_looked_11 (by decide) ?_
  refine aw_istore_n (pc := 12) (L' := [(2, .int 0), (1, rf E v3), (0, rf E a0)]) C dX9_looked_12 rfl (by decide) rfl ?_
  refine aw_sub (L' := [(0, rf E a0), (1, rf E v3), (2, .int 0)]) [2, 1, 0] rfl ?_
  refine aw_loop (pc := 13) (σ := Int32 × Mem) (fun s => [(0, rf E a0), (1, rf E v3), (2, .int s.1)]) (fun s => s.2) _ (fun k6 ih7 s => ?_) _ _
  obtain ⟨v4, h5⟩ := s
  show Aw K E _ _ _ _ _ 13 [(0, rf E a0), (1, rf E v3), (2, .int v4)] [] h5 _
  refine aw_iload_n (pc := 13) C dX9_looked_13 rfl 2 rfl ?_
  refine aw_aload_n (pc := 14) C dX9_looked_14 rfl 0 rfl ?_
  refine aw_getR (pc := 15) C fl_X9_12 dX9_looked_15 (fun v8 ev8 => ?_)
  refine aw_getR (pc := 18) C fl_X9_256 dX9_looked_18 (fun v9 ev9 => ?_)
  refine aw_getI (pc := 21) C fl_X9_133 dX9_looked_21 (fun v10 ev10 => ?_)
  refine aw_icmp_ge (pc := 24) C 74 dX9_looked_24 (by decide) (fun c26 => ?_) (fun c26 => ?_)
  · refine aw_bipush (pc := 74) (v := (-5)) C dX9_looked_74 (by decide) ?_
    exact aw_ireturn (pc := 76) C hr rfl hz0 rfl dX9_looked_76
  refine aw_aload_n (pc := 27) C dX9_looked_27 rfl 0 rfl ?_
  refine aw_getR (pc := 28) C fl_X9_12 dX9_looked_28 (fun v11 ev11 => ?_)
  refine aw_getR (pc := 31) C fl_X9_256 dX9_looked_31 (fun v12 ev12 => ?_)
  refine aw_iload_n (pc := 34) C dX9_looked_34 rfl 2 rfl ?_
  refine aw_callVI (pc := 35) (R := rmX9_looked) (c := 4) (As := [.int v4]) (rest := []) (st := [.int v4, rf E v12]) (c' := 0) (s' := 0) C hE rfl (by decide) cal_X4_first ml_X9_259 rfl ⟨(Nat.le_of_ble_eq_true rfl), (Nat.le_of_ble_eq_true rfl)⟩ ⟨(Nat.le_of_ble_eq_true rfl), (Nat.le_of_ble_eq_true rfl)⟩ dX9_looked_35 (okX4_first E (kL K) v12 v4 h5) rfl (Nat.le_of_ble_eq_true rfl) rfl rfl (fun v14 h13 eh13 => ?_)
  refine aw_istore_n (pc := 38) (L' := [(3, .int v14), (0, rf E a0), (1, rf E v3), (2, .int v4)]) C dX9_looked_38 rfl (by decide) rfl ?_
  refine aw_aload_n (pc := 39) C dX9_looked_39 rfl 2 rfl ?_
  refine aw_iload_n (pc := 40) C dX9_looked_40 rfl 0 rfl ?_
  refine aw_callVI (pc := 41) (R := rmX9_looked) (c := 2) (As := [.int v14]) (rest := []) (st := [.int v14, rf E v3]) (c' := 0) (s' := 0) C hE rfl (by decide) cal_X2_has ml_X9_88 rfl ⟨(Nat.le_of_ble_eq_true rfl), (Nat.le_of_ble_eq_true rfl)⟩ ⟨(Nat.le_of_ble_eq_true rfl), (Nat.le_of_ble_eq_true rfl)⟩ dX9_looked_41 (okX2_has E (kL K) v3 v14 h13) rfl (Nat.le_of_ble_eq_true rfl) rfl rfl (fun v16 h15 eh15 => ?_)
  refine aw_if_eq (pc := 44) C 66 dX9_looked_44 (by decide) (fun c25 => ?_) (fun c25 => ?_)
  · refine aw_iload_n (pc := 66) C dX9_looked_66 rfl 3 rfl ?_
    exact aw_ireturn (pc := 67) C hr rfl hz0 rfl dX9_looked_67
  refine aw_aload_n (pc := 47) C dX9_looked_47 rfl 2 rfl ?_
  refine aw_iload_n (pc := 48) C dX9_looked_48 rfl 0 rfl ?_
  refine aw_callVI (pc := 49) (R := rmX9_looked) (c := 2) (As := [.int v14]) (rest := []) (st := [.int v14, rf E v3]) (c' := 0) (s' := 0) C hE rfl (by decide) cal_X2_get ml_X9_92 rfl ⟨(Nat.le_of_ble_eq_true rfl), (Nat.le_of_ble_eq_true rfl)⟩ ⟨(Nat.le_of_ble_eq_true rfl), (Nat.le_of_ble_eq_true rfl)⟩ dX9_looked_49 (okX2_get E (kL K) v3 v14 h15) rfl (Nat.le_of_ble_eq_true rfl) rfl rfl (fun v18 h17 eh17 => ?_)
  refine aw_aload_n (pc := 52) C dX9_looked_52 rfl 1 rfl ?_
  refine aw_getR (pc := 53) C fl_X9_12 dX9_looked_53 (fun v19 ev19 => ?_)
  refine aw_getR (pc := 56) C fl_X9_256 dX9_looked_56 (fun v20 ev20 => ?_)
  refine aw_iload_n (pc := 59) C dX9_looked_59 rfl 3 rfl ?_
  refine aw_callVI (pc := 60) (R := rmX9_looked) (c := 4) (As := [.int v4]) (rest := [.int v18]) (st := [.int v4, rf E v20, .int v18]) (c' := 0) (s' := 0) C hE rfl (by decide) cal_X4_second ml_X9_262 rfl ⟨(Nat.le_of_ble_eq_true rfl), (Nat.le_of_ble_eq_true rfl)⟩ ⟨(Nat.le_of_ble_eq_true rfl), (Nat.le_of_ble_eq_true rfl)⟩ dX9_looked_60 (okX4_second E (kL K) v20 v4 h17) rfl (Nat.le_of_ble_eq_true rfl) rfl rfl (fun v22 h21 eh21 => ?_)
  refine aw_icmp_eq (pc := 63) C 68 dX9_looked_63 (by decide) (fun c24 => ?_) (fun c24 => ?_)
  · refine aw_iincN (pc := 68) (L1 := [(3, .int v14), (0, rf E a0), (1, rf E v3)]) (k := 1) C dX9_looked_68 3 rfl (by decide) (by decide) rfl (fun v23 ev23 => ?_)
    refine aw_goto (pc := 71) C 13 dX9_looked_71 (by decide) ?_
    exact aw_sub (L' := [(0, rf E a0), (1, rf E v3), (2, .int v23)]) [2, 3, 0] rfl (ih7 (v23, h21))
  refine aw_iload_n (pc := 66) C dX9_looked_66 rfl 3 rfl ?_
  exact aw_ireturn (pc := 67) C hr rfl hz0 rfl dX9_looked_67
def rmX9_tapeAt : Room := { frames := 0, cells := 0, slots := 0, locals := 0 }
set_option maxHeartbeats 4000000 in
set_option maxRecDepth 100000 in
theorem okX9_tapeAt (E : Ev) (l : Launch) (a0 : Nat) (a1 : Int32) (h0 : Mem) : AMet E l yX9_tapeAt cX9_tapeAt 2 (some (.object "TwoLetterForms$Tape")) rmX9_tapeAt [rf E a0, .int a1] h0 (rvR E) (fX9_tapeAt a0 a1 h0) := by
  refine am_intro (plainFor_of_name (by decide +kernel)) (Nat.le_of_ble_eq_true rfl) (fun K hKl C hr hnm hz0 => ?_)
  replace C : CxOK K E RX9 cX9_tapeAt 2 := C
  have hE : E.1 + 1 ≤ (kS K).heap.size := by omega
  unfold fX9_tapeAt
  show Aw K E _ _ _ _ _ 0 [(0, rf E a0), (1, .int a1)] [] h0 _
  refine aw_iload_n (pc := 0) C dX9_tapeAt_0 rfl 1 rfl ?_
  refine aw_if_lt (pc := 1) C 22 dX9_tapeAt_1 (by decide) (fun c6 => ?_) (fun c6 => ?_)
  · refine aw_null (pc := 22) C dX9_tapeAt_22 ?_
    exact aw_areturnN (pc := 23) C hr hz0 rfl dX9_tapeAt_23
  refine aw_iload_n (pc := 4) C dX9_tapeAt_4 rfl 1 rfl ?_
  refine aw_aload_n (pc := 5) C dX9_tapeAt_5 rfl 0 rfl ?_
  refine aw_getR (pc := 6) C fl_X9_62 dX9_tapeAt_6 (fun v1 ev1 => ?_)
  refine aw_arraylength (pc := 9) C dX9_tapeAt_9 (fun v2 ev2 => ?_)
  refine aw_icmp_ge (pc := 10) C 22 dX9_tapeAt_10 (by decide) (fun c5 => ?_) (fun c5 => ?_)
  · refine aw_null (pc := 22) C dX9_tapeAt_22 ?_
    exact aw_areturnN (pc := 23) C hr hz0 rfl dX9_tapeAt_23
  refine aw_aload_n (pc := 13) C dX9_tapeAt_13 rfl 0 rfl ?_
  refine aw_getR (pc := 14) C fl_X9_62 dX9_tapeAt_14 (fun v3 ev3 => ?_)
  refine aw_iload_n (pc := 17) C dX9_tapeAt_17 rfl 1 rfl ?_
  refine aw_aaload (pc := 18) C dX9_tapeAt_18 (fun v4 ev4 => ?_)
  refine aw_goto (pc := 19) C 23 dX9_tapeAt_19 (by decide) ?_
  exact aw_areturn (pc := 23) C hr (xR_ne ev4) hz0 rfl dX9_tapeAt_23
def rmX7_holdsNothing : Room := { frames := 0, cells := 0, slots := 0, locals := 0 }
set_option maxHeartbeats 4000000 in
set_option maxRecDepth 100000 in
theorem okX7_holdsNothing (E : Ev) (l : Launch) (a0 : Nat) (h0 : Mem) : AMet E l yX7_holdsNothing cX7_holdsNothing 1 (some (.boolean)) rmX7_holdsNothing [rf E a0] h0 rvI (fX7_holdsNothing a0 h0) := by
  refine am_intro (plainFor_of_name (by decide +kernel)) (Nat.le_of_ble_eq_true rfl) (fun K hKl C hr hnm hz0 => ?_)
  replace C : CxOK K E RX7 cX7_holdsNothing 1 := C
  have hE : E.1 + 1 ≤ (kS K).heap.size := by omega
  unfold fX7_holdsNothing
  show Aw K E _ _ _ _ _ 0 [(0, rf E a0)] [] h0 _
  refine aw_aload_n (pc := 0) C dX7_holdsNothing_0 rfl 0 rfl ?_
  refine aw_getI (pc := 1) C fl_X7_9 dX7_holdsNothing_1 (fun v1 ev1 => ?_)
  refine aw_iconst (pc := 4) (v := (-1)) C dX7_holdsNothing_4 (by decide) ?_
  refine aw_icmp_ne (pc := 5) C 12 dX7_holdsNothing_5 (by decide) (fun c2 => ?_) (fun c2 => ?_)
  · refine aw_iconst (pc := 8) (v := 1) C dX7_holdsNothing_8 (by decide) ?_
    refine aw_goto (pc := 9) C 13 dX7_holdsNothing_9 (by decide) ?_
    exact aw_ireturn (pc := 13) C hr rfl hz0 rfl dX7_holdsNothing_13
  refine aw_iconst (pc := 12) (v := 0) C dX7_holdsNothing_12 (by decide) ?_
  exact aw_ireturn (pc := 13) C hr rfl hz0 rfl dX7_holdsNothing_13
def rmX7_has : Room := { frames := 0, cells := 0, slots := 0, locals := 0 }
set_option maxHeartbeats 4000000 in
set_option maxRecDepth 100000 in
theorem okX7_has (E : Ev) (l : Launch) (a0 : Nat) (a1 : Int32) (h0 : Mem) : AMet E l yX7_has cX7_has 2 (some (.boolean)) rmX7_has [rf E a0, .int a1] h0 rvI (fX7_has a0 a1 h0) := by
  refine am_intro (plainFor_of_name (by decide +kernel)) (Nat.le_of_ble_eq_true rfl) (fun K hKl C hr hnm hz0 => ?_)
  replace C : CxOK K E RX7 cX7_has 2 := C
  have hE : E.1 + 1 ≤ (kS K).heap.size := by omega
  unfold fX7_has
  show Aw K E _ _ _ _ _ 0 [(0, rf E a0), (1, .int a1)] [] h0 _
  refine aw_iload_n (pc := 0) C dX7_has_0 rfl 1 rfl ?_
  refine aw_if_lt (pc := 1) C 25 dX7_has_1 (by decide) (fun c6 => ?_) (fun c6 => ?_)
  · refine aw_iconst (pc := 25) (v := 0) C dX7_has_25 (by decide) ?_
    exact aw_ireturn (pc := 26) C hr rfl hz0 rfl dX7_has_26
  refine aw_iload_n (pc := 4) C dX7_has_4 rfl 1 rfl ?_
  refine aw_aload_n (pc := 5) C dX7_has_5 rfl 0 rfl ?_
  refine aw_getI (pc := 6) C fl_X7_19 dX7_has_6 (fun v1 ev1 => ?_)
  refine aw_icmp_ge (pc := 9) C 25 dX7_has_9 (by decide) (fun c5 => ?_) (fun c5 => ?_)
  · refine aw_iconst (pc := 25) (v := 0) C dX7_has_25 (by decide) ?_
    exact aw_ireturn (pc := 26) C hr rfl hz0 rfl dX7_has_26
  refine aw_iload_n (pc := 12) C dX7_has_12 rfl 1 rfl ?_
  refine aw_aload_n (pc := 13) C dX7_has_13 rfl 0 rfl ?_
  refine aw_getR (pc := 14) C fl_X7_15 dX7_has_14 (fun v2 ev2 => ?_)
  refine aw_arraylength (pc := 17) C dX7_has_17 (fun v3 ev3 => ?_)
  refine aw_icmp_ge (pc := 18) C 25 dX7_has_18 (by decide) (fun c4 => ?_) (fun c4 => ?_)
  · refine aw_iconst (pc := 25) (v := 0) C dX7_has_25 (by decide) ?_
    exact aw_ireturn (pc := 26) C hr rfl hz0 rfl dX7_has_26
  refine aw_iconst (pc := 21) (v := 1) C dX7_has_21 (by decide) ?_
  refine aw_goto (pc := 22) C 26 dX7_has_22 (by decide) ?_
  exact aw_ireturn (pc := 26) C hr rfl hz0 rfl dX7_has_26
def rmX7_get : Room := { frames := 1, cells := 0, slots := 0, locals := 21 }
set_option maxHeartbeats 4000000 in
set_option maxRecDepth 100000 in
theorem okX7_get (E : Ev) (l : Launch) (a0 : Nat) (a1 : Int32) (h0 : Mem) : AMet E l yX7_get cX7_get 2 (some (.long)) rmX7_get [rf E a0, .int a1] h0 rvJ (fX7_get a0 a1 h0) := by
  refine am_intro (plainFor_of_name (by decide +kernel)) (Nat.le_of_ble_eq_true rfl) (fun K hKl C hr hnm hz0 => ?_)
  replace C : CxOK K E RX7 cX7_get 2 := C
  have hE : E.1 + 1 ≤ (kS K).heap.size := by omega
  unfold fX7_get
  show Aw K E _ _ _ _ _ 0 [(0, rf E a0), (1, .int a1)] [] h0 _
  refine aw_aload_n (pc := 0) C dX7_get_0 rfl 0 rfl ?_
  refine aw_iload_n (pc := 1) C dX7_get_1 rfl 1 rfl ?_
  refine aw_callVI (pc := 2) (R := rmX7_get) (c := 7) (As := [.int a1]) (rest := []) (st := [.int a1, rf E a0]) (c' := 0) (s' := 0) C hE rfl (by decide) cal_X7_has ml_X7_37 rfl ⟨(Nat.le_of_ble_eq_true rfl), (Nat.le_of_ble_eq_true rfl)⟩ ⟨(Nat.le_of_ble_eq_true rfl), (Nat.le_of_ble_eq_true rfl)⟩ dX7_get_2 (okX7_has E (kL K) a0 a1 h0) rfl (Nat.le_of_ble_eq_true rfl) rfl rfl (fun v2 h1 eh1 => ?_)
  refine aw_if_eq (pc := 5) C 17 dX7_get_5 (by decide) (fun c5 => ?_) (fun c5 => ?_)
  · refine aw_lconst (pc := 17) (v := 0) C dX7_get_17 (by decide) ?_
    exact aw_lreturn (pc := 18) C hr hz0 rfl dX7_get_18
  refine aw_aload_n (pc := 8) C dX7_get_8 rfl 0 rfl ?_
  refine aw_getR (pc := 9) C fl_X7_15 dX7_get_9 (fun v3 ev3 => ?_)
  refine aw_iload_n (pc := 12) C dX7_get_12 rfl 1 rfl ?_
  refine aw_laload (pc := 13) C dX7_get_13 (fun v4 ev4 => ?_)
  refine aw_goto (pc := 14) C 18 dX7_get_14 (by decide) ?_
  exact aw_lreturn (pc := 18) C hr hz0 rfl dX7_get_18
def rmX9_judge : Room := { frames := 2, cells := 0, slots := 0, locals := 42 }
set_option maxHeartbeats 4000000 in
set_option maxRecDepth 100000 in
theorem okX9_judge (E : Ev) (l : Launch) (a0 : Nat) (a1 : Int32) (a2 : Int32) (h0 : Mem) : AMet E l yX9_judge cX9_judge 6 (some (.int)) rmX9_judge [rf E a0, .int a1, .int a2] h0 rvI (fX9_judge a0 a1 a2 h0) := by
  refine am_intro (plainFor_of_name (by decide +kernel)) (Nat.le_of_ble_eq_true rfl) (fun K hKl C hr hnm hz0 => ?_)
  replace C : CxOK K E RX9 cX9_judge 6 := C
  have hE : E.1 + 1 ≤ (kS K).heap.size := by omega
  unfold fX9_judge
  show Aw K E _ _ _ _ _ 0 [(0, rf E a0), (1, .int a1), (2, .int a2)] [] h0 _
  refine aw_aload_n (pc := 0) C dX9_judge_0 rfl 0 rfl ?_
  refine aw_iload_n (pc := 1) C dX9_judge_1 rfl 1 rfl ?_
  refine aw_callVR (pc := 2) (R := rmX9_judge) (c := 9) (As := [.int a1]) (rest := []) (st := [.int a1, rf E a0]) (c' := 0) (s' := 0) C hE rfl (by decide) cal_X9_tapeAt ml_X9_265 rfl ⟨(Nat.le_of_ble_eq_true rfl), (Nat.le_of_ble_eq_true rfl)⟩ ⟨(Nat.le_of_ble_eq_true rfl), (Nat.le_of_ble_eq_true rfl)⟩ dX9_judge_2 (okX9_tapeAt E (kL K) a0 a1 h0) rfl (Nat.le_of_ble_eq_true rfl) rfl rfl (fun h1 eh1 => ?_) (fun v2 h1 ev2 nv2 => ?_)
  · refine aw_itt rfl ?_
    refine aw_astore_nN (pc := 5) (L' := [(3, .null), (0, rf E a0), (1, .int a1), (2, .int a2)]) C dX9_judge_5 rfl (by decide) rfl ?_
    refine aw_aload_nN (pc := 6) C dX9_judge_6 rfl 0 rfl ?_
    refine aw_ifnonnull_f (pc := 7) C dX9_judge_7 ?_
    refine aw_iconst (pc := 10) (v := (-1)) C dX9_judge_10 (by decide) ?_
    exact aw_ireturn (pc := 11) C hr rfl hz0 rfl dX9_judge_11
  refine aw_itf nv2 ?_
  refine aw_astore_n (pc := 5) (L' := [(3, rf E v2), (0, rf E a0), (1, .int a1), (2, .int a2)]) C dX9_judge_5 rfl (by decide) rfl ?_
  refine aw_aload_n (pc := 6) C dX9_judge_6 rfl 0 rfl ?_
  refine aw_ifnonnull_t (pc := 7) C 12 dX9_judge_7 (by decide) ?_
  refine aw_aload_n (pc := 12) C dX9_judge_12 rfl 0 rfl ?_
  refine aw_callVI (pc := 13) (R := rmX9_judge) (c := 7) (As := []) (rest := []) (st := [rf E v2]) (c' := 0) (s' := 0) C hE rfl (by decide) cal_X7_holdsNothing ml_X9_269 rfl ⟨(Nat.le_of_ble_eq_true rfl), (Nat.le_of_ble_eq_true rfl)⟩ ⟨(Nat.le_of_ble_eq_true rfl), (Nat.le_of_ble_eq_true rfl)⟩ dX9_judge_13 (okX7_holdsNothing E (kL K) v2 h1) rfl (Nat.le_of_ble_eq_true rfl) rfl rfl (fun v4 h3 eh3 => ?_)
  refine aw_jn (σ := Unit) 30 (fun s => [(0, rf E a0), (2, .int a2), (3, rf E v2)]) (fun s => []) (fun s => h3) (fun s => ?_) (fun k5 jk6 => ?_)
  · show Aw K E _ _ _ _ _ 30 [(0, rf E a0), (2, .int a2), (3, rf E v2)] [] h3 _
    refine aw_aload_n (pc := 30) C dX9_judge_30 rfl 0 rfl ?_
    refine aw_getR (pc := 31) C fl_X9_12 dX9_judge_31 (fun v7 ev7 => ?_)
    refine aw_getR (pc := 34) C fl_X9_71 dX9_judge_34 (fun v8 ev8 => ?_)
    refine aw_getR (pc := 37) C fl_X9_74 dX9_judge_37 (fun v9 ev9 => ?_)
    refine aw_astore (pc := 40) (L' := [(4, rf E v9), (0, rf E a0), (2, .int a2), (3, rf E v2)]) C dX9_judge_40 (by decide) rfl ?_
    refine aw_iconst (pc := 42) (v := 0) C dX9_judge_42 (by decide) ?_
    refine aw_istore (pc := 43) (L' := [(5, .int 0), (4, rf E v9), (0, rf E a0), (2, .int a2), (3, rf E v2)]) C dX9_judge_43 (by decide) rfl ?_
    refine aw_sub (L' := [(2, .int a2), (3, rf E v2), (4, rf E v9), (5, .int 0)]) [3, 4, 1, 0] rfl ?_
    refine aw_loop (pc := 45) (σ := Int32 × Mem) (fun s => [(2, .int a2), (3, rf E v2), (4, rf E v9), (5, .int s.1)]) (fun s => s.2) _ (fun k12 ih13 s => ?_) _ _
    obtain ⟨v10, h11⟩ := s
    show Aw K E _ _ _ _ _ 45 [(2, .int a2), (3, rf E v2), (4, rf E v9), (5, .int v10)] [] h11 _
    refine aw_iload (pc := 45) C dX9_judge_45 3 rfl ?_
    refine aw_aload (pc := 47) C dX9_judge_47 2 rfl ?_
    refine aw_getI (pc := 49) C fl_X9_78 dX9_judge_49 (fun v14 ev14 => ?_)
    refine aw_icmp_gt (pc := 52) C 101 dX9_judge_52 (by decide) (fun c24 => ?_) (fun c24 => ?_)
    · refine aw_bipush (pc := 101) (v := (-5)) C dX9_judge_101 (by decide) ?_
      exact aw_ireturn (pc := 103) C hr rfl hz0 rfl dX9_judge_103
    refine aw_aload_n (pc := 55) C dX9_judge_55 rfl 1 rfl ?_
    refine aw_iload_n (pc := 56) C dX9_judge_56 rfl 0 rfl ?_
    refine aw_iload (pc := 57) C dX9_judge_57 3 rfl ?_
    refine aw_iadd (pc := 59) C dX9_judge_59 ?_
    refine aw_callVI (pc := 60) (R := rmX9_judge) (c := 7) (As := [.int (a2 + v10)]) (rest := []) (st := [.int (a2 + v10), rf E v2]) (c' := 0) (s' := 0) C hE rfl (by decide) cal_X7_has ml_X9_276 rfl ⟨(Nat.le_of_ble_eq_true rfl), (Nat.le_of_ble_eq_true rfl)⟩ ⟨(Nat.le_of_ble_eq_true rfl), (Nat.le_of_ble_eq_true rfl)⟩ dX9_judge_60 (okX7_has E (kL K) v2 (a2 + v10) h11) rfl (Nat.le_of_ble_eq_true rfl) rfl rfl (fun v16 h15 eh15 => ?_)
    refine aw_if_ne (pc := 63) C 72 dX9_judge_63 (by decide) (fun c23 => ?_) (fun c23 => ?_)
    · refine aw_bipush (pc := 66) (v := 100) C dX9_judge_66 (by decide) ?_
      refine aw_iload (pc := 68) C dX9_judge_68 3 rfl ?_
      refine aw_iadd (pc := 70) C dX9_judge_70 ?_
      exact aw_ireturn (pc := 71) C hr rfl hz0 rfl dX9_judge_71
    refine aw_aload_n (pc := 72) C dX9_judge_72 rfl 1 rfl ?_
    refine aw_iload_n (pc := 73) C dX9_judge_73 rfl 0 rfl ?_
    refine aw_iload (pc := 74) C dX9_judge_74 3 rfl ?_
    refine aw_iadd (pc := 76) C dX9_judge_76 ?_
    refine aw_callVJ (pc := 77) (R := rmX9_judge) (c := 7) (As := [.int (a2 + v10)]) (rest := []) (st := [.int (a2 + v10), rf E v2]) (c' := 0) (s' := 0) C hE rfl (by decide) cal_X7_get ml_X9_277 rfl ⟨(Nat.le_of_ble_eq_true rfl), (Nat.le_of_ble_eq_true rfl)⟩ ⟨(Nat.le_of_ble_eq_true rfl), (Nat.le_of_ble_eq_true rfl)⟩ dX9_judge_77 (okX7_get E (kL K) v2 (a2 + v10) h15) rfl (Nat.le_of_ble_eq_true rfl) rfl rfl (fun v18 h17 eh17 => ?_)
    refine aw_aload (pc := 80) C dX9_judge_80 2 rfl ?_
    refine aw_iload (pc := 82) C dX9_judge_82 3 rfl ?_
    refine aw_callVI (pc := 84) (R := rmX9_judge) (c := 2) (As := [.int v10]) (rest := [.long v18]) (st := [.int v10, rf E v9, .long v18]) (c' := 0) (s' := 0) C hE rfl (by decide) cal_X2_get ml_X9_92 rfl ⟨(Nat.le_of_ble_eq_true rfl), (Nat.le_of_ble_eq_true rfl)⟩ ⟨(Nat.le_of_ble_eq_true rfl), (Nat.le_of_ble_eq_true rfl)⟩ dX9_judge_84 (okX2_get E (kL K) v9 v10 h17) rfl (Nat.le_of_ble_eq_true rfl) rfl rfl (fun v20 h19 eh19 => ?_)
    refine aw_i2l (pc := 87) C dX9_judge_87 ?_
    refine aw_lcmp (pc := 88) C dX9_judge_88 ?_
    refine aw_if_eq (pc := 89) C 95 dX9_judge_89 (by decide) (fun c22 => ?_) (fun c22 => ?_)
    · refine aw_iincN (pc := 95) (L1 := [(2, .int a2), (3, rf E v2), (4, rf E v9)]) (k := 1) C dX9_judge_95 3 rfl (by decide) (by decide) rfl (fun v21 ev21 => ?_)
      refine aw_goto (pc := 98) C 45 dX9_judge_98 (by decide) ?_
      exact aw_sub (L' := [(2, .int a2), (3, rf E v2), (4, rf E v9), (5, .int v21)]) [1, 2, 3, 0] rfl (ih13 (v21, h19))
    refine aw_iload (pc := 92) C dX9_judge_92 3 rfl ?_
    exact aw_ireturn (pc := 94) C hr rfl hz0 rfl dX9_judge_94
  refine aw_if_ne (pc := 16) C 30 dX9_judge_16 (by decide) (fun c27 => ?_) (fun c27 => ?_)
  · refine aw_aload_n (pc := 19) C dX9_judge_19 rfl 0 rfl ?_
    refine aw_getI (pc := 20) C fl_X9_273 dX9_judge_20 (fun v25 ev25 => ?_)
    refine aw_iconst (pc := 23) (v := 1) C dX9_judge_23 (by decide) ?_
    refine aw_icmp_eq (pc := 24) C 30 dX9_judge_24 (by decide) (fun c26 => ?_) (fun c26 => ?_)
    · exact aw_sub (L' := [(0, rf E a0), (2, .int a2), (3, rf E v2)]) [1, 3, 0] rfl (jk6 ())
    refine aw_bipush (pc := 27) (v := (-12)) C dX9_judge_27 (by decide) ?_
    exact aw_ireturn (pc := 29) C hr rfl hz0 rfl dX9_judge_29
  exact aw_sub (L' := [(0, rf E a0), (2, .int a2), (3, rf E v2)]) [1, 3, 0] rfl (jk6 ())
def rmX4_copy : Room := { frames := 1, cells := 0, slots := 0, locals := 80 }
set_option maxHeartbeats 4000000 in
set_option maxRecDepth 100000 in
theorem okX4_copy (E : Ev) (l : Launch) (a0 : Nat) (a1 : Nat) (h0 : Mem) : AMet E l yX4_copy cX4_copy 2 none rmX4_copy [rf E a0, rf E a1] h0 rvV (fX4_copy a0 a1 h0) := by
  refine am_intro (plainFor_of_name (by decide +kernel)) (Nat.le_of_ble_eq_true rfl) (fun K hKl C hr hnm hz0 => ?_)
  replace C : CxOK K E RX4 cX4_copy 2 := C
  have hE : E.1 + 1 ≤ (kS K).heap.size := by omega
  unfold fX4_copy
  show Aw K E _ _ _ _ _ 0 [(0, rf E a0), (1, rf E a1)] [] h0 _
  refine aw_aload_n (pc := 0) C dX4_copy_0 rfl 0 rfl ?_
  refine aw_aload_n (pc := 1) C dX4_copy_1 rfl 1 rfl ?_
  refine aw_getI (pc := 2) C fl_X4_9 dX4_copy_2 (fun v1 ev1 => ?_)
  refine aw_putI (pc := 5) C fw_X4_9 rfl rfl dX4_copy_5 (fun h2 eh2 => ?_)
  refine aw_aload_n (pc := 8) C dX4_copy_8 rfl 1 rfl ?_
  refine aw_getR (pc := 9) C fl_X4_21 dX4_copy_9 (fun v3 ev3 => ?_)
  refine aw_iconst (pc := 12) (v := 0) C dX4_copy_12 (by decide) ?_
  refine aw_aload_n (pc := 13) C dX4_copy_13 rfl 0 rfl ?_
  refine aw_getR (pc := 14) C fl_X4_21 dX4_copy_14 (fun v4 ev4 => ?_)
  refine aw_iconst (pc := 17) (v := 0) C dX4_copy_17 (by decide) ?_
  refine aw_aload_n (pc := 18) C dX4_copy_18 rfl 0 rfl ?_
  refine aw_getR (pc := 19) C fl_X4_21 dX4_copy_19 (fun v5 ev5 => ?_)
  refine aw_arraylength (pc := 22) C dX4_copy_22 (fun v6 ev6 => ?_)
  refine aw_aload_n (pc := 23) C dX4_copy_23 rfl 1 rfl ?_
  refine aw_getR (pc := 24) C fl_X4_21 dX4_copy_24 (fun v7 ev7 => ?_)
  refine aw_arraylength (pc := 27) C dX4_copy_27 (fun v8 ev8 => ?_)
  refine aw_callSI (pc := 28) (R := rmX4_copy) (As := [.int v6, .int v8]) (rest := [.int 0, rf E v4, .int 0, rf E v3]) (st := [.int v8, .int v6, .int 0, rf E v4, .int 0, rf E v3]) (c' := 0) (s' := 0) C hE cal_J9_min_7cf53 ml_X4_25 rfl ⟨(Nat.le_of_ble_eq_true rfl), (Nat.le_of_ble_eq_true rfl)⟩ ⟨(Nat.le_of_ble_eq_true rfl), (Nat.le_of_ble_eq_true rfl)⟩ dX4_copy_28 (okJ9_min_7cf53 E (kL K) v6 v8 h2) rfl (Nat.le_of_ble_eq_true rfl) rfl rfl (fun v10 h9 eh9 => ?_)
  refine aw_copyI (pc := 31) C ml_X4_28 ac_1 ac_2 ac_3 (Nat.le_of_ble_eq_true rfl) (by decide +kernel) dX4_copy_31 (fun h11 eh11 => ?_)
  exact aw_return (pc := 34) C hr hz0 rfl dX4_copy_34
def rmX6_copy : Room := { frames := 3, cells := 0, slots := 0, locals := 122 }
set_option maxHeartbeats 4000000 in
set_option maxRecDepth 100000 in
theorem okX6_copy (E : Ev) (l : Launch) (a0 : Nat) (a1 : Nat) (h0 : Mem) : AMet E l yX6_copy cX6_copy 2 none rmX6_copy [rf E a0, rf E a1] h0 rvV (fX6_copy a0 a1 h0) := by
  refine am_intro (plainFor_of_name (by decide +kernel)) (Nat.le_of_ble_eq_true rfl) (fun K hKl C hr hnm hz0 => ?_)
  replace C : CxOK K E RX6 cX6_copy 2 := C
  have hE : E.1 + 1 ≤ (kS K).heap.size := by omega
  unfold fX6_copy
  show Aw K E _ _ _ _ _ 0 [(0, rf E a0), (1, rf E a1)] [] h0 _
  refine aw_aload_n (pc := 0) C dX6_copy_0 rfl 0 rfl ?_
  refine aw_getR (pc := 1) C fl_X6_12 dX6_copy_1 (fun v1 ev1 => ?_)
  refine aw_aload_n (pc := 4) C dX6_copy_4 rfl 1 rfl ?_
  refine aw_getR (pc := 5) C fl_X6_12 dX6_copy_5 (fun v2 ev2 => ?_)
  refine aw_callVV (pc := 8) (R := rmX6_copy) (c := 1) (As := [rf E v2]) (rest := []) (st := [rf E v2, rf E v1]) (c' := 0) (s' := 0) C hE rfl (by decide) cal_X1_copy ml_X6_33 rfl ⟨(Nat.le_of_ble_eq_true rfl), (Nat.le_of_ble_eq_true rfl)⟩ ⟨(Nat.le_of_ble_eq_true rfl), (Nat.le_of_ble_eq_true rfl)⟩ dX6_copy_8 (okX1_copy E (kL K) v1 v2 h0) rfl (Nat.le_of_ble_eq_true rfl) rfl rfl (fun _u h3 eh3 => ?_)
  refine aw_aload_n (pc := 11) C dX6_copy_11 rfl 0 rfl ?_
  refine aw_getR (pc := 12) C fl_X6_23 dX6_copy_12 (fun v4 ev4 => ?_)
  refine aw_aload_n (pc := 15) C dX6_copy_15 rfl 1 rfl ?_
  refine aw_getR (pc := 16) C fl_X6_23 dX6_copy_16 (fun v5 ev5 => ?_)
  refine aw_callVV (pc := 19) (R := rmX6_copy) (c := 4) (As := [rf E v5]) (rest := []) (st := [rf E v5, rf E v4]) (c' := 0) (s' := 0) C hE rfl (by decide) cal_X4_copy ml_X6_37 rfl ⟨(Nat.le_of_ble_eq_true rfl), (Nat.le_of_ble_eq_true rfl)⟩ ⟨(Nat.le_of_ble_eq_true rfl), (Nat.le_of_ble_eq_true rfl)⟩ dX6_copy_19 (okX4_copy E (kL K) v4 v5 h3) rfl (Nat.le_of_ble_eq_true rfl) rfl rfl (fun _u h6 eh6 => ?_)
  refine aw_aload_n (pc := 22) C dX6_copy_22 rfl 0 rfl ?_
  refine aw_getR (pc := 23) C fl_X6_27 dX6_copy_23 (fun v7 ev7 => ?_)
  refine aw_aload_n (pc := 26) C dX6_copy_26 rfl 1 rfl ?_
  refine aw_getR (pc := 27) C fl_X6_27 dX6_copy_27 (fun v8 ev8 => ?_)
  refine aw_callVV (pc := 30) (R := rmX6_copy) (c := 4) (As := [rf E v8]) (rest := []) (st := [rf E v8, rf E v7]) (c' := 0) (s' := 0) C hE rfl (by decide) cal_X4_copy ml_X6_37 rfl ⟨(Nat.le_of_ble_eq_true rfl), (Nat.le_of_ble_eq_true rfl)⟩ ⟨(Nat.le_of_ble_eq_true rfl), (Nat.le_of_ble_eq_true rfl)⟩ dX6_copy_30 (okX4_copy E (kL K) v7 v8 h6) rfl (Nat.le_of_ble_eq_true rfl) rfl rfl (fun _u h9 eh9 => ?_)
  refine aw_aload_n (pc := 33) C dX6_copy_33 rfl 0 rfl ?_
  refine aw_getR (pc := 34) C fl_X6_30 dX6_copy_34 (fun v10 ev10 => ?_)
  refine aw_aload_n (pc := 37) C dX6_copy_37 rfl 1 rfl ?_
  refine aw_getR (pc := 38) C fl_X6_30 dX6_copy_38 (fun v11 ev11 => ?_)
  refine aw_callVV (pc := 41) (R := rmX6_copy) (c := 4) (As := [rf E v11]) (rest := []) (st := [rf E v11, rf E v10]) (c' := 0) (s' := 0) C hE rfl (by decide) cal_X4_copy ml_X6_37 rfl ⟨(Nat.le_of_ble_eq_true rfl), (Nat.le_of_ble_eq_true rfl)⟩ ⟨(Nat.le_of_ble_eq_true rfl), (Nat.le_of_ble_eq_true rfl)⟩ dX6_copy_41 (okX4_copy E (kL K) v10 v11 h9) rfl (Nat.le_of_ble_eq_true rfl) rfl rfl (fun _u h12 eh12 => ?_)
  exact aw_return (pc := 44) C hr hz0 rfl dX6_copy_44
def rmX9_image : Room := { frames := 4, cells := 0, slots := 0, locals := 143 }
set_option maxHeartbeats 4000000 in
set_option maxRecDepth 100000 in
theorem okX9_image (E : Ev) (l : Launch) (a0 : Nat) (h0 : Mem) : AMet E l yX9_image cX9_image 1 (some (.int)) rmX9_image [rf E a0] h0 rvI (fX9_image a0 h0) := by
  refine am_intro (plainFor_of_name (by decide +kernel)) (Nat.le_of_ble_eq_true rfl) (fun K hKl C hr hnm hz0 => ?_)
  replace C : CxOK K E RX9 cX9_image 1 := C
  have hE : E.1 + 1 ≤ (kS K).heap.size := by omega
  unfold fX9_image
  show Aw K E _ _ _ _ _ 0 [(0, rf E a0)] [] h0 _
  refine aw_aload_n (pc := 0) C dX9_image_0 rfl 0 rfl ?_
  refine aw_getR (pc := 1) C fl_X9_18 dX9_image_1 (fun v1 ev1 => ?_)
  refine aw_aload_n (pc := 4) C dX9_image_4 rfl 0 rfl ?_
  refine aw_getR (pc := 5) C fl_X9_12 dX9_image_5 (fun v2 ev2 => ?_)
  refine aw_callVV (pc := 8) (R := rmX9_image) (c := 6) (As := [rf E v2]) (rest := []) (st := [rf E v2, rf E v1]) (c' := 0) (s' := 0) C hE rfl (by decide) cal_X6_copy ml_X9_279 rfl ⟨(Nat.le_of_ble_eq_true rfl), (Nat.le_of_ble_eq_true rfl)⟩ ⟨(Nat.le_of_ble_eq_true rfl), (Nat.le_of_ble_eq_true rfl)⟩ dX9_image_8 (okX6_copy E (kL K) v1 v2 h0) rfl (Nat.le_of_ble_eq_true rfl) rfl rfl (fun _u h3 eh3 => ?_)
  refine aw_aload_n (pc := 11) C dX9_image_11 rfl 0 rfl ?_
  refine aw_iconst (pc := 12) (v := 1) C dX9_image_12 (by decide) ?_
  refine aw_putI (pc := 13) C fw_X9_21 rfl rfl dX9_image_13 (fun h4 eh4 => ?_)
  refine aw_aload_n (pc := 16) C dX9_image_16 rfl 0 rfl ?_
  refine aw_getR (pc := 17) C fl_X9_12 dX9_image_17 (fun v5 ev5 => ?_)
  refine aw_getR (pc := 20) C fl_X9_71 dX9_image_20 (fun v6 ev6 => ?_)
  refine aw_getR (pc := 23) C fl_X9_74 dX9_image_23 (fun v7 ev7 => ?_)
  refine aw_getI (pc := 26) C fl_X9_78 dX9_image_26 (fun v8 ev8 => ?_)
  exact aw_ireturn (pc := 29) C hr rfl hz0 rfl dX9_image_29
def rmX9_undo : Room := { frames := 4, cells := 0, slots := 0, locals := 143 }
set_option maxHeartbeats 4000000 in
set_option maxRecDepth 100000 in
theorem okX9_undo (E : Ev) (l : Launch) (a0 : Nat) (h0 : Mem) : AMet E l yX9_undo cX9_undo 1 (some (.int)) rmX9_undo [rf E a0] h0 rvI (fX9_undo a0 h0) := by
  refine am_intro (plainFor_of_name (by decide +kernel)) (Nat.le_of_ble_eq_true rfl) (fun K hKl C hr hnm hz0 => ?_)
  replace C : CxOK K E RX9 cX9_undo 1 := C
  have hE : E.1 + 1 ≤ (kS K).heap.size := by omega
  unfold fX9_undo
  show Aw K E _ _ _ _ _ 0 [(0, rf E a0)] [] h0 _
  refine aw_aload_n (pc := 0) C dX9_undo_0 rfl 0 rfl ?_
  refine aw_getI (pc := 1) C fl_X9_21 dX9_undo_1 (fun v1 ev1 => ?_)
  refine aw_if_ne (pc := 4) C 10 dX9_undo_4 (by decide) (fun c9 => ?_) (fun c9 => ?_)
  · refine aw_bipush (pc := 7) (v := (-3)) C dX9_undo_7 (by decide) ?_
    exact aw_ireturn (pc := 9) C hr rfl hz0 rfl dX9_undo_9
  refine aw_aload_n (pc := 10) C dX9_undo_10 rfl 0 rfl ?_
  refine aw_getR (pc := 11) C fl_X9_12 dX9_undo_11 (fun v2 ev2 => ?_)
  refine aw_aload_n (pc := 14) C dX9_undo_14 rfl 0 rfl ?_
  refine aw_getR (pc := 15) C fl_X9_18 dX9_undo_15 (fun v3 ev3 => ?_)
  refine aw_callVV (pc := 18) (R := rmX9_undo) (c := 6) (As := [rf E v3]) (rest := []) (st := [rf E v3, rf E v2]) (c' := 0) (s' := 0) C hE rfl (by decide) cal_X6_copy ml_X9_279 rfl ⟨(Nat.le_of_ble_eq_true rfl), (Nat.le_of_ble_eq_true rfl)⟩ ⟨(Nat.le_of_ble_eq_true rfl), (Nat.le_of_ble_eq_true rfl)⟩ dX9_undo_18 (okX6_copy E (kL K) v2 v3 h0) rfl (Nat.le_of_ble_eq_true rfl) rfl rfl (fun _u h4 eh4 => ?_)
  refine aw_aload_n (pc := 21) C dX9_undo_21 rfl 0 rfl ?_
  refine aw_getR (pc := 22) C fl_X9_12 dX9_undo_22 (fun v5 ev5 => ?_)
  refine aw_getR (pc := 25) C fl_X9_71 dX9_undo_25 (fun v6 ev6 => ?_)
  refine aw_getR (pc := 28) C fl_X9_74 dX9_undo_28 (fun v7 ev7 => ?_)
  refine aw_getI (pc := 31) C fl_X9_78 dX9_undo_31 (fun v8 ev8 => ?_)
  exact aw_ireturn (pc := 34) C hr rfl hz0 rfl dX9_undo_34
def rmX9_count : Room := { frames := 0, cells := 0, slots := 0, locals := 0 }
set_option maxHeartbeats 4000000 in
set_option maxRecDepth 100000 in
theorem okX9_count (E : Ev) (l : Launch) (a0 : Nat) (a1 : Int32) (h0 : Mem) : AMet E l yX9_count cX9_count 2 (some (.int)) rmX9_count [rf E a0, .int a1] h0 rvI (fX9_count a0 a1 h0) := by
  refine am_intro (plainFor_of_name (by decide +kernel)) (Nat.le_of_ble_eq_true rfl) (fun K hKl C hr hnm hz0 => ?_)
  replace C : CxOK K E RX9 cX9_count 2 := C
  have hE : E.1 + 1 ≤ (kS K).heap.size := by omega
  unfold fX9_count
  show Aw K E _ _ _ _ _ 0 [(0, rf E a0), (1, .int a1)] [] h0 _
  refine aw_iload_n (pc := 0) C dX9_count_0 rfl 1 rfl ?_
  refine aw_case 0 (fun c1 => ?_) (fun c1 => ?_)
  · refine aw_tableIn (pc := 1) C 0 32 c1 dX9_count_1 (by decide) (by decide) rfl (by decide) ?_
    refine aw_aload_n (pc := 32) C dX9_count_32 rfl 0 rfl ?_
    refine aw_getR (pc := 33) C fl_X9_12 dX9_count_33 (fun v2 ev2 => ?_)
    refine aw_getR (pc := 36) C fl_X9_213 dX9_count_36 (fun v3 ev3 => ?_)
    refine aw_getI (pc := 39) C fl_X9_133 dX9_count_39 (fun v4 ev4 => ?_)
    exact aw_ireturn (pc := 42) C hr rfl hz0 rfl dX9_count_42
  refine aw_case 1 (fun c5 => ?_) (fun c5 => ?_)
  · refine aw_tableIn (pc := 1) C 1 43 c5 dX9_count_1 (by decide) (by decide) rfl (by decide) ?_
    refine aw_aload_n (pc := 43) C dX9_count_43 rfl 0 rfl ?_
    refine aw_getR (pc := 44) C fl_X9_12 dX9_count_44 (fun v6 ev6 => ?_)
    refine aw_getR (pc := 47) C fl_X9_244 dX9_count_47 (fun v7 ev7 => ?_)
    refine aw_getI (pc := 50) C fl_X9_133 dX9_count_50 (fun v8 ev8 => ?_)
    exact aw_ireturn (pc := 53) C hr rfl hz0 rfl dX9_count_53
  refine aw_case 2 (fun c9 => ?_) (fun c9 => ?_)
  · refine aw_tableIn (pc := 1) C 2 54 c9 dX9_count_1 (by decide) (by decide) rfl (by decide) ?_
    refine aw_aload_n (pc := 54) C dX9_count_54 rfl 0 rfl ?_
    refine aw_getR (pc := 55) C fl_X9_12 dX9_count_55 (fun v10 ev10 => ?_)
    refine aw_getR (pc := 58) C fl_X9_256 dX9_count_58 (fun v11 ev11 => ?_)
    refine aw_getI (pc := 61) C fl_X9_133 dX9_count_61 (fun v12 ev12 => ?_)
    exact aw_ireturn (pc := 64) C hr rfl hz0 rfl dX9_count_64
  refine aw_case 3 (fun c13 => ?_) (fun c13 => ?_)
  · refine aw_tableIn (pc := 1) C 3 65 c13 dX9_count_1 (by decide) (by decide) rfl (by decide) ?_
    refine aw_aload_n (pc := 65) C dX9_count_65 rfl 0 rfl ?_
    refine aw_getR (pc := 66) C fl_X9_56 dX9_count_66 (fun v14 ev14 => ?_)
    refine aw_getI (pc := 69) C fl_X9_122 dX9_count_69 (fun v15 ev15 => ?_)
    exact aw_ireturn (pc := 72) C hr rfl hz0 rfl dX9_count_72
  refine aw_tableOut (pc := 1) C 73 dX9_count_1 (by have qc1 := lv_neT c1 (show (0 : Int32).toInt = 0 by decide); have qc5 := lv_neT c5 (show (1 : Int32).toInt = 1 by decide); have qc9 := lv_neT c9 (show (2 : Int32).toInt = 2 by decide); have qc13 := lv_neT c13 (show (3 : Int32).toInt = 3 by decide); omega) (by decide) ?_
  refine aw_bipush (pc := 73) (v := (-2)) C dX9_count_73 (by decide) ?_
  exact aw_ireturn (pc := 75) C hr rfl hz0 rfl dX9_count_75
def rmX7_become : Room := { frames := 1, cells := 0, slots := 0, locals := 24 }
set_option maxHeartbeats 4000000 in
set_option maxRecDepth 100000 in
theorem okX7_become (E : Ev) (l : Launch) (a0 : Nat) (a1 : Int32) (a2 : Int32) (h0 : Mem) : AMet E l yX7_become cX7_become 3 none rmX7_become [rf E a0, .int a1, .int a2] h0 rvV (fX7_become a0 a1 a2 h0) := by
  refine am_intro (plainFor_of_name (by decide +kernel)) (Nat.le_of_ble_eq_true rfl) (fun K hKl C hr hnm hz0 => ?_)
  replace C : CxOK K E RX7 cX7_become 3 := C
  have hE : E.1 + 1 ≤ (kS K).heap.size := by omega
  unfold fX7_become
  show Aw K E _ _ _ _ _ 0 [(0, rf E a0), (1, .int a1), (2, .int a2)] [] h0 _
  refine aw_aload_n (pc := 0) C dX7_become_0 rfl 0 rfl ?_
  refine aw_iload_n (pc := 1) C dX7_become_1 rfl 1 rfl ?_
  refine aw_putI (pc := 2) C fw_X7_9 rfl rfl dX7_become_2 (fun h1 eh1 => ?_)
  refine aw_aload_n (pc := 5) C dX7_become_5 rfl 0 rfl ?_
  refine aw_iconst (pc := 6) (v := 0) C dX7_become_6 (by decide) ?_
  refine aw_iload_n (pc := 7) C dX7_become_7 rfl 2 rfl ?_
  refine aw_aload_n (pc := 8) C dX7_become_8 rfl 0 rfl ?_
  refine aw_getR (pc := 9) C fl_X7_15 dX7_become_9 (fun v2 ev2 => ?_)
  refine aw_arraylength (pc := 12) C dX7_become_12 (fun v3 ev3 => ?_)
  refine aw_callSI (pc := 13) (R := rmX7_become) (As := [.int a2, .int v3]) (rest := [.int 0, rf E a0]) (st := [.int v3, .int a2, .int 0, rf E a0]) (c' := 0) (s' := 0) C hE cal_J9_min_7cf53 ml_X7_22 rfl ⟨(Nat.le_of_ble_eq_true rfl), (Nat.le_of_ble_eq_true rfl)⟩ ⟨(Nat.le_of_ble_eq_true rfl), (Nat.le_of_ble_eq_true rfl)⟩ dX7_become_13 (okJ9_min_7cf53 E (kL K) a2 v3 h1) rfl (Nat.le_of_ble_eq_true rfl) rfl rfl (fun v5 h4 eh4 => ?_)
  refine aw_callSI (pc := 16) (R := rmX7_become) (As := [.int 0, .int v5]) (rest := [rf E a0]) (st := [.int v5, .int 0, rf E a0]) (c' := 0) (s' := 0) C hE cal_J9_max_7cf53 ml_X7_28 rfl ⟨(Nat.le_of_ble_eq_true rfl), (Nat.le_of_ble_eq_true rfl)⟩ ⟨(Nat.le_of_ble_eq_true rfl), (Nat.le_of_ble_eq_true rfl)⟩ dX7_become_16 (okJ9_max_7cf53 E (kL K) 0 v5 h4) rfl (Nat.le_of_ble_eq_true rfl) rfl rfl (fun v7 h6 eh6 => ?_)
  refine aw_putI (pc := 19) C fw_X7_19 rfl rfl dX7_become_19 (fun h8 eh8 => ?_)
  refine aw_aload_n (pc := 22) C dX7_become_22 rfl 0 rfl ?_
  refine aw_getR (pc := 23) C fl_X7_15 dX7_become_23 (fun v9 ev9 => ?_)
  refine aw_lconst (pc := 26) (v := 0) C dX7_become_26 (by decide) ?_
  refine aw_callSV (pc := 27) (R := rmX7_become) (As := [rf E v9, .long 0]) (rest := []) (st := [.long 0, rf E v9]) (c' := 0) (s' := 0) C hE cal_J7_fill_d0a16 ml_X7_31 rfl ⟨(Nat.le_of_ble_eq_true rfl), (Nat.le_of_ble_eq_true rfl)⟩ ⟨(Nat.le_of_ble_eq_true rfl), (Nat.le_of_ble_eq_true rfl)⟩ dX7_become_27 (okJ7_fill_d0a16 E (kL K) v9 0 h8) rfl (Nat.le_of_ble_eq_true rfl) rfl rfl (fun _u h10 eh10 => ?_)
  exact aw_return (pc := 30) C hr hz0 rfl dX7_become_30
