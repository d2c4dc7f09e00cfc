def rmX9_value : Room := { frames := 1, cells := 0, slots := 0, locals := 29 }
set_option maxHeartbeats 4000000 in
set_option maxRecDepth 100000 in
theorem okX9_value (E : Ev) (l : Launch) (a0 : Nat) (a1 : Int32) (a2 : Int32) (h0 : Mem) : AMet E l yX9_value cX9_value 3 (some (.long)) rmX9_value [rf E a0, .int a1, .int a2] h0 rvJ (fX9_value a0 a1 a2 h0) := by
  refine am_intro (plainFor_of_name (by decide +kernel)) (Nat.le_of_ble_eq_true rfl) (fun K hKl C hr hnm hz0 => ?_)
  replace C : CxOK K E RX9 cX9_value 3 := C
  have hE : E.1 + 1 ≤ (kS K).heap.size := by omega
  unfold fX9_value
  show Aw K E _ _ _ _ _ 0 [(0, rf E a0), (1, .int a1), (2, .int a2)] [] h0 _
  refine aw_iload_n (pc := 0) C dX9_value_0 rfl 1 rfl ?_
  refine aw_sipush (pc := 1) (v := (-999)) C dX9_value_1 (by decide) ?_
  refine aw_sipush (pc := 4) (v := 999) C dX9_value_4 (by decide) ?_
  refine aw_callSI (pc := 7) (R := rmX9_value) (As := [.int a1, .int (-999), .int 999]) (rest := []) (st := [.int 999, .int (-999), .int a1]) (c' := 0) (s' := 0) C hE cal_X9_between ml_X9_67 rfl ⟨(Nat.le_of_ble_eq_true rfl), (Nat.le_of_ble_eq_true rfl)⟩ ⟨(Nat.le_of_ble_eq_true rfl), (Nat.le_of_ble_eq_true rfl)⟩ dX9_value_7 (okX9_between E (kL K) a1 (-999) 999 h0) rfl (Nat.le_of_ble_eq_true rfl) rfl rfl (fun v2 h1 eh1 => ?_)
  refine aw_if_ne (pc := 10) C 17 dX9_value_10 (by decide) (fun c11 => ?_) (fun c11 => ?_)
  · refine aw_ldc2 (pc := 13) (v := (-9223372036854775808)) C kc_X9_163 dX9_value_13 ?_
    exact aw_lreturn (pc := 16) C hr hz0 rfl dX9_value_16
  refine aw_iload_n (pc := 17) C dX9_value_17 rfl 2 rfl ?_
  refine aw_sipush (pc := 18) (v := (-999)) C dX9_value_18 (by decide) ?_
  refine aw_sipush (pc := 21) (v := 999) C dX9_value_21 (by decide) ?_
  refine aw_callSI (pc := 24) (R := rmX9_value) (As := [.int a2, .int (-999), .int 999]) (rest := []) (st := [.int 999, .int (-999), .int a2]) (c' := 0) (s' := 0) C hE cal_X9_between ml_X9_67 rfl ⟨(Nat.le_of_ble_eq_true rfl), (Nat.le_of_ble_eq_true rfl)⟩ ⟨(Nat.le_of_ble_eq_true rfl), (Nat.le_of_ble_eq_true rfl)⟩ dX9_value_24 (okX9_between E (kL K) a2 (-999) 999 h1) rfl (Nat.le_of_ble_eq_true rfl) rfl rfl (fun v4 h3 eh3 => ?_)
  refine aw_if_ne (pc := 27) C 34 dX9_value_27 (by decide) (fun c10 => ?_) (fun c10 => ?_)
  · refine aw_ldc2 (pc := 30) (v := (-9223372036854775808)) C kc_X9_163 dX9_value_30 ?_
    exact aw_lreturn (pc := 33) C hr hz0 rfl dX9_value_33
  refine aw_aload_n (pc := 34) C dX9_value_34 rfl 0 rfl ?_
  refine aw_getR (pc := 35) C fl_X9_12 dX9_value_35 (fun v5 ev5 => ?_)
  refine aw_getR (pc := 38) C fl_X9_71 dX9_value_38 (fun v6 ev6 => ?_)
  refine aw_getR (pc := 41) C fl_X9_74 dX9_value_41 (fun v7 ev7 => ?_)
  refine aw_iload_n (pc := 44) C dX9_value_44 rfl 1 rfl ?_
  refine aw_i2l (pc := 45) C dX9_value_45 ?_
  refine aw_iload_n (pc := 46) C dX9_value_46 rfl 2 rfl ?_
  refine aw_i2l (pc := 47) C dX9_value_47 ?_
  refine aw_callVJ (pc := 48) (R := rmX9_value) (c := 2) (As := [.long a1.toInt64, .long a2.toInt64]) (rest := []) (st := [.long a2.toInt64, .long a1.toInt64, rf E v7]) (c' := 0) (s' := 0) C hE rfl (by decide) cal_X2_at ml_X9_165 rfl ⟨(Nat.le_of_ble_eq_true rfl), (Nat.le_of_ble_eq_true rfl)⟩ ⟨(Nat.le_of_ble_eq_true rfl), (Nat.le_of_ble_eq_true rfl)⟩ dX9_value_48 (okX2_at E (kL K) v7 a1.toInt64 a2.toInt64 h3) rfl (Nat.le_of_ble_eq_true rfl) rfl rfl (fun v9 h8 eh8 => ?_)
  exact aw_lreturn (pc := 51) C hr hz0 rfl dX9_value_51
def rmX0_cellOfAnswer : Room := { frames := 0, cells := 0, slots := 0, locals := 0 }
set_option maxHeartbeats 4000000 in
set_option maxRecDepth 100000 in
theorem okX0_cellOfAnswer (E : Ev) (l : Launch) (a0 : Nat) (a1 : Int32) (h0 : Mem) : AMet E l yX0_cellOfAnswer cX0_cellOfAnswer 4 (some (.int)) rmX0_cellOfAnswer [rf E a0, .int a1] h0 rvI (fX0_cellOfAnswer a0 a1 h0) := by
  refine am_intro (plainFor_of_name (by decide +kernel)) (Nat.le_of_ble_eq_true rfl) (fun K hKl C hr hnm hz0 => ?_)
  replace C : CxOK K E RX0 cX0_cellOfAnswer 4 := C
  have hE : E.1 + 1 ≤ (kS K).heap.size := by omega
  unfold fX0_cellOfAnswer
  show Aw K E _ _ _ _ _ 0 [(0, rf E a0), (1, .int a1)] [] h0 _
  refine aw_iconst (pc := 0) (v := 0) C dX0_cellOfAnswer_0 (by decide) ?_
  refine aw_istore_n (pc := 1) (L' := [(2, .int 0), (0, rf E a0), (1, .int a1)]) C dX0_cellOfAnswer_1 rfl (by decide) rfl ?_
  refine aw_iconst (pc := 2) (v := 0) C dX0_cellOfAnswer_2 (by decide) ?_
  refine aw_istore_n (pc := 3) (L' := [(3, .int 0), (2, .int 0), (0, rf E a0), (1, .int a1)]) C dX0_cellOfAnswer_3 rfl (by decide) rfl ?_
  refine aw_sub (L' := [(0, rf E a0), (1, .int a1), (2, .int 0), (3, .int 0)]) [2, 3, 1, 0] rfl ?_
  refine aw_loop (pc := 4) (σ := Int32 × Int32) (fun s => [(0, rf E a0), (1, .int a1), (2, .int s.1), (3, .int s.2)]) (fun s => h0) _ (fun k3 ih4 s => ?_) _ _
  obtain ⟨v1, v2⟩ := s
  show Aw K E _ _ _ _ _ 4 [(0, rf E a0), (1, .int a1), (2, .int v1), (3, .int v2)] [] h0 _
  refine aw_iload_n (pc := 4) C dX0_cellOfAnswer_4 rfl 3 rfl ?_
  refine aw_aload_n (pc := 5) C dX0_cellOfAnswer_5 rfl 0 rfl ?_
  refine aw_getR (pc := 6) C fl_X0_32 dX0_cellOfAnswer_6 (fun v5 ev5 => ?_)
  refine aw_arraylength (pc := 9) C dX0_cellOfAnswer_9 (fun v6 ev6 => ?_)
  refine aw_icmp_ge (pc := 10) C 42 dX0_cellOfAnswer_10 (by decide) (fun c14 => ?_) (fun c14 => ?_)
  · refine aw_iconst (pc := 42) (v := (-1)) C dX0_cellOfAnswer_42 (by decide) ?_
    exact aw_ireturn (pc := 43) C hr rfl hz0 rfl dX0_cellOfAnswer_43
  refine aw_aload_n (pc := 13) C dX0_cellOfAnswer_13 rfl 0 rfl ?_
  refine aw_getR (pc := 14) C fl_X0_32 dX0_cellOfAnswer_14 (fun v7 ev7 => ?_)
  refine aw_iload_n (pc := 17) C dX0_cellOfAnswer_17 rfl 3 rfl ?_
  refine aw_iaload (pc := 18) C dX0_cellOfAnswer_18 (fun v8 ev8 => ?_)
  refine aw_iconst (pc := 19) (v := (-1)) C dX0_cellOfAnswer_19 (by decide) ?_
  refine aw_icmp_ne (pc := 20) C 26 dX0_cellOfAnswer_20 (by decide) (fun c13 => ?_) (fun c13 => ?_)
  · refine aw_goto (pc := 23) C 36 dX0_cellOfAnswer_23 (by decide) ?_
    refine aw_iincN (pc := 36) (L1 := [(0, rf E a0), (1, .int a1), (2, .int v1)]) (k := 1) C dX0_cellOfAnswer_36 3 rfl (by decide) (by decide) rfl (fun v9 ev9 => ?_)
    refine aw_goto (pc := 39) C 4 dX0_cellOfAnswer_39 (by decide) ?_
    exact aw_sub (L' := [(0, rf E a0), (1, .int a1), (2, .int v1), (3, .int v9)]) [1, 2, 3, 0] rfl (ih4 (v1, v9))
  refine aw_iload_n (pc := 26) C dX0_cellOfAnswer_26 rfl 2 rfl ?_
  refine aw_iload_n (pc := 27) C dX0_cellOfAnswer_27 rfl 1 rfl ?_
  refine aw_icmp_ne (pc := 28) C 33 dX0_cellOfAnswer_28 (by decide) (fun c12 => ?_) (fun c12 => ?_)
  · refine aw_iload_n (pc := 31) C dX0_cellOfAnswer_31 rfl 3 rfl ?_
    exact aw_ireturn (pc := 32) C hr rfl hz0 rfl dX0_cellOfAnswer_32
  refine aw_iincN (pc := 33) (L1 := [(0, rf E a0), (1, .int a1), (3, .int v2)]) (k := 1) C dX0_cellOfAnswer_33 2 rfl (by decide) (by decide) rfl (fun v10 ev10 => ?_)
  refine aw_iincN (pc := 36) (L1 := [(2, .int v10), (0, rf E a0), (1, .int a1)]) (k := 1) C dX0_cellOfAnswer_36 3 rfl (by decide) (by decide) rfl (fun v11 ev11 => ?_)
  refine aw_goto (pc := 39) C 4 dX0_cellOfAnswer_39 (by decide) ?_
  exact aw_sub (L' := [(0, rf E a0), (1, .int a1), (2, .int v10), (3, .int v11)]) [2, 3, 1, 0] rfl (ih4 (v10, v11))
def rmX9_answer : Room := { frames := 6, cells := 0, slots := 0, locals := 165 }
set_option maxHeartbeats 4000000 in
set_option maxRecDepth 100000 in
theorem okX9_answer (E : Ev) (l : Launch) (a0 : Nat) (a1 : Int32) (a2 : Int32) (h0 : Mem) : AMet E l yX9_answer cX9_answer 5 (some (.int)) rmX9_answer [rf E a0, .int a1, .int a2] h0 rvI (fX9_answer a0 a1 a2 h0) := by
  refine am_intro (plainFor_of_name (by decide +kernel)) (Nat.le_of_ble_eq_true rfl) (fun K hKl C hr hnm hz0 => ?_)
  replace C : CxOK K E RX9 cX9_answer 5 := C
  have hE : E.1 + 1 ≤ (kS K).heap.size := by omega
  unfold fX9_answer
  show Aw K E _ _ _ _ _ 0 [(0, rf E a0), (1, .int a1), (2, .int a2)] [] h0 _
  refine aw_iload_n (pc := 0) C dX9_answer_0 rfl 1 rfl ?_
  refine aw_if_lt (pc := 1) C 13 dX9_answer_1 (by decide) (fun c24 => ?_) (fun c24 => ?_)
  · refine aw_iconst (pc := 13) (v := (-1)) C dX9_answer_13 (by decide) ?_
    exact aw_ireturn (pc := 14) C hr rfl hz0 rfl dX9_answer_14
  refine aw_iload_n (pc := 4) C dX9_answer_4 rfl 2 rfl ?_
  refine aw_iconst (pc := 5) (v := 0) C dX9_answer_5 (by decide) ?_
  refine aw_iconst (pc := 6) (v := 2) C dX9_answer_6 (by decide) ?_
  refine aw_callSI (pc := 7) (R := rmX9_answer) (As := [.int a2, .int 0, .int 2]) (rest := []) (st := [.int 2, .int 0, .int a2]) (c' := 0) (s' := 0) C hE cal_X9_between ml_X9_67 rfl ⟨(Nat.le_of_ble_eq_true rfl), (Nat.le_of_ble_eq_true rfl)⟩ ⟨(Nat.le_of_ble_eq_true rfl), (Nat.le_of_ble_eq_true rfl)⟩ dX9_answer_7 (okX9_between E (kL K) a2 0 2 h0) rfl (Nat.le_of_ble_eq_true rfl) rfl rfl (fun v2 h1 eh1 => ?_)
  refine aw_if_ne (pc := 10) C 15 dX9_answer_10 (by decide) (fun c23 => ?_) (fun c23 => ?_)
  · refine aw_iconst (pc := 13) (v := (-1)) C dX9_answer_13 (by decide) ?_
    exact aw_ireturn (pc := 14) C hr rfl hz0 rfl dX9_answer_14
  refine aw_iload_n (pc := 15) C dX9_answer_15 rfl 2 rfl ?_
  refine aw_iconst (pc := 16) (v := 2) C dX9_answer_16 (by decide) ?_
  refine aw_jn (σ := Nat × Mem) 31 (fun s => [(1, .int a1), (2, .int a2)]) (fun s => [rf E s.1]) (fun s => s.2) (fun s => ?_) (fun k5 jk6 => ?_)
  · obtain ⟨v3, h4⟩ := s
    show Aw K E _ _ _ _ _ 31 [(1, .int a1), (2, .int a2)] [rf E v3] h4 _
    refine aw_astore_n (pc := 31) (L' := [(3, rf E v3), (1, .int a1), (2, .int a2)]) C dX9_answer_31 rfl (by decide) rfl ?_
    refine aw_aload_n (pc := 32) C dX9_answer_32 rfl 0 rfl ?_
    refine aw_iload_n (pc := 33) C dX9_answer_33 rfl 1 rfl ?_
    refine aw_callVI (pc := 34) (R := rmX9_answer) (c := 0) (As := [.int a1]) (rest := []) (st := [.int a1, rf E v3]) (c' := 0) (s' := 0) C hE rfl (by decide) cal_X0_cellOfAnswer ml_X9_169 rfl ⟨(Nat.le_of_ble_eq_true rfl), (Nat.le_of_ble_eq_true rfl)⟩ ⟨(Nat.le_of_ble_eq_true rfl), (Nat.le_of_ble_eq_true rfl)⟩ dX9_answer_34 (okX0_cellOfAnswer E (kL K) v3 a1 h4) rfl (Nat.le_of_ble_eq_true rfl) rfl rfl (fun v8 h7 eh7 => ?_)
    refine aw_istore (pc := 37) (L' := [(4, .int v8), (3, rf E v3), (1, .int a1), (2, .int a2)]) C dX9_answer_37 (by decide) rfl ?_
    refine aw_iload (pc := 39) C dX9_answer_39 0 rfl ?_
    refine aw_if_ge (pc := 41) C 47 dX9_answer_41 (by decide) (fun c17 => ?_) (fun c17 => ?_)
    · refine aw_iload_n (pc := 47) C dX9_answer_47 rfl 3 rfl ?_
      refine aw_if_ne (pc := 48) C 60 dX9_answer_48 (by decide) (fun c16 => ?_) (fun c16 => ?_)
      · refine aw_iload (pc := 51) C dX9_answer_51 0 rfl ?_
        refine aw_callSI (pc := 53) (R := rmX9_answer) (As := [.int v8]) (rest := []) (st := [.int v8]) (c' := 0) (s' := 0) C hE cal_X0_xOf ml_X9_172 rfl ⟨(Nat.le_of_ble_eq_true rfl), (Nat.le_of_ble_eq_true rfl)⟩ ⟨(Nat.le_of_ble_eq_true rfl), (Nat.le_of_ble_eq_true rfl)⟩ dX9_answer_53 (okX0_xOf E (kL K) v8 h7) rfl (Nat.le_of_ble_eq_true rfl) rfl rfl (fun v10 h9 eh9 => ?_)
        refine aw_bipush (pc := 56) (v := 100) C dX9_answer_56 (by decide) ?_
        refine aw_iadd (pc := 58) C dX9_answer_58 ?_
        exact aw_ireturn (pc := 59) C hr rfl hz0 rfl dX9_answer_59
      refine aw_iload_n (pc := 60) C dX9_answer_60 rfl 3 rfl ?_
      refine aw_iconst (pc := 61) (v := 1) C dX9_answer_61 (by decide) ?_
      refine aw_icmp_ne (pc := 62) C 74 dX9_answer_62 (by decide) (fun c15 => ?_) (fun c15 => ?_)
      · refine aw_iload (pc := 65) C dX9_answer_65 0 rfl ?_
        refine aw_callSI (pc := 67) (R := rmX9_answer) (As := [.int v8]) (rest := []) (st := [.int v8]) (c' := 0) (s' := 0) C hE cal_X0_yOf ml_X9_175 rfl ⟨(Nat.le_of_ble_eq_true rfl), (Nat.le_of_ble_eq_true rfl)⟩ ⟨(Nat.le_of_ble_eq_true rfl), (Nat.le_of_ble_eq_true rfl)⟩ dX9_answer_67 (okX0_yOf E (kL K) v8 h7) rfl (Nat.le_of_ble_eq_true rfl) rfl rfl (fun v12 h11 eh11 => ?_)
        refine aw_bipush (pc := 70) (v := 100) C dX9_answer_70 (by decide) ?_
        refine aw_iadd (pc := 72) C dX9_answer_72 ?_
        exact aw_ireturn (pc := 73) C hr rfl hz0 rfl dX9_answer_73
      refine aw_aload_n (pc := 74) C dX9_answer_74 rfl 1 rfl ?_
      refine aw_iload (pc := 75) C dX9_answer_75 0 rfl ?_
      refine aw_callVI (pc := 77) (R := rmX9_answer) (c := 0) (As := [.int v8]) (rest := []) (st := [.int v8, rf E v3]) (c' := 0) (s' := 0) C hE rfl (by decide) cal_X0_labelAt ml_X9_178 rfl ⟨(Nat.le_of_ble_eq_true rfl), (Nat.le_of_ble_eq_true rfl)⟩ ⟨(Nat.le_of_ble_eq_true rfl), (Nat.le_of_ble_eq_true rfl)⟩ dX9_answer_77 (okX0_labelAt E (kL K) v3 v8 h7) rfl (Nat.le_of_ble_eq_true rfl) rfl rfl (fun v14 h13 eh13 => ?_)
      exact aw_ireturn (pc := 80) C hr rfl hz0 rfl dX9_answer_80
    refine aw_bipush (pc := 44) (v := (-5)) C dX9_answer_44 (by decide) ?_
    exact aw_ireturn (pc := 46) C hr rfl hz0 rfl dX9_answer_46
  refine aw_icmp_ne (pc := 17) C 27 dX9_answer_17 (by decide) (fun c22 => ?_) (fun c22 => ?_)
  · refine aw_aload_n (pc := 20) C dX9_answer_20 rfl 0 rfl ?_
    refine aw_callVR (pc := 21) (R := rmX9_answer) (c := 9) (As := []) (rest := []) (st := [rf E a0]) (c' := 0) (s' := 0) C hE rfl (by decide) cal_X9_answersInFamilies ml_X9_149 rfl ⟨(Nat.le_of_ble_eq_true rfl), (Nat.le_of_ble_eq_true rfl)⟩ ⟨(Nat.le_of_ble_eq_true rfl), (Nat.le_of_ble_eq_true rfl)⟩ dX9_answer_21 (okX9_answersInFamilies E (kL K) a0 h1) rfl (Nat.le_of_ble_eq_true rfl) rfl rfl (fun h18 eh18 => ?_) (fun v19 h18 ev19 nv19 => ?_)
    · refine aw_itt rfl ?_
      exact aw_none
    refine aw_itf nv19 ?_
    refine aw_goto (pc := 24) C 31 dX9_answer_24 (by decide) ?_
    exact aw_sub (L' := [(1, .int a1), (2, .int a2)]) [1, 2] rfl (jk6 (v19, h18))
  refine aw_aload_n (pc := 27) C dX9_answer_27 rfl 0 rfl ?_
  refine aw_callVR (pc := 28) (R := rmX9_answer) (c := 9) (As := []) (rest := []) (st := [rf E a0]) (c' := 0) (s' := 0) C hE rfl (by decide) cal_X9_answersNow ml_X9_139 rfl ⟨(Nat.le_of_ble_eq_true rfl), (Nat.le_of_ble_eq_true rfl)⟩ ⟨(Nat.le_of_ble_eq_true rfl), (Nat.le_of_ble_eq_true rfl)⟩ dX9_answer_28 (okX9_answersNow E (kL K) a0 h1) rfl (Nat.le_of_ble_eq_true rfl) rfl rfl (fun h20 eh20 => ?_) (fun v21 h20 ev21 nv21 => ?_)
  · refine aw_itt rfl ?_
    exact aw_none
  refine aw_itf nv21 ?_
  exact aw_sub (L' := [(1, .int a1), (2, .int a2)]) [1, 2] rfl (jk6 (v21, h20))
def rmJ9_floorMod_f86c9 : Room := { frames := 0, cells := 0, slots := 0, locals := 0 }
set_option maxHeartbeats 4000000 in
set_option maxRecDepth 100000 in
theorem okJ9_floorMod_f86c9 (E : Ev) (l : Launch) (a0 : Int64) (a2 : Int64) (h0 : Mem) : AMet E l yJ9_floorMod_f86c9 cJ9_floorMod_f86c9 6 (some (.long)) rmJ9_floorMod_f86c9 [.long a0, .long a2] h0 rvJ (fJ9_floorMod_f86c9 a0 a2 h0) := by
  refine am_intro (mathPlain rfl rfl) (Nat.le_of_ble_eq_true rfl) (fun K hKl C hr hnm hz0 => ?_)
  replace C : CxOK K E RJ9 cJ9_floorMod_f86c9 6 := C
  have hE : E.1 + 1 ≤ (kS K).heap.size := by omega
  unfold fJ9_floorMod_f86c9
  show Aw K E _ _ _ _ _ 0 [(0, .long a0), (2, .long a2)] [] h0 _
  refine aw_lload_n (pc := 0) C dJ9_floorMod_f86c9_0 rfl 0 rfl ?_
  refine aw_lload_n (pc := 1) C dJ9_floorMod_f86c9_1 rfl 1 rfl ?_
  refine aw_lrem (pc := 2) C dJ9_floorMod_f86c9_2 (fun z2 => ?_)
  refine aw_nmJ (pc := 3) (fun v1 ev1 => ?_)
  refine aw_lstore (pc := 3) (L' := [(4, .long v1), (0, .long a0), (2, .long a2)]) C dJ9_floorMod_f86c9_3 (by decide) rfl ?_
  refine aw_lload_n (pc := 5) C dJ9_floorMod_f86c9_5 rfl 1 rfl ?_
  refine aw_lload_n (pc := 6) C dJ9_floorMod_f86c9_6 rfl 2 rfl ?_
  refine aw_lxor (pc := 7) C dJ9_floorMod_f86c9_7 ?_
  refine aw_lconst (pc := 8) (v := 0) C dJ9_floorMod_f86c9_8 (by decide) ?_
  refine aw_lcmp (pc := 9) C dJ9_floorMod_f86c9_9 ?_
  refine aw_if_ge (pc := 10) C 25 dJ9_floorMod_f86c9_10 (by decide) (fun c3 => ?_) (fun c3 => ?_)
  · refine aw_lload (pc := 25) C dJ9_floorMod_f86c9_25 0 rfl ?_
    exact aw_lreturn (pc := 27) C hr hz0 rfl dJ9_floorMod_f86c9_27
  refine aw_lload (pc := 13) C dJ9_floorMod_f86c9_13 0 rfl ?_
  refine aw_lconst (pc := 15) (v := 0) C dJ9_floorMod_f86c9_15 (by decide) ?_
  refine aw_lcmp (pc := 16) C dJ9_floorMod_f86c9_16 ?_
  refine aw_if_eq (pc := 17) C 25 dJ9_floorMod_f86c9_17 (by decide) (fun c2 => ?_) (fun c2 => ?_)
  · refine aw_lload (pc := 25) C dJ9_floorMod_f86c9_25 0 rfl ?_
    exact aw_lreturn (pc := 27) C hr hz0 rfl dJ9_floorMod_f86c9_27
  refine aw_lload (pc := 20) C dJ9_floorMod_f86c9_20 0 rfl ?_
  refine aw_lload_n (pc := 22) C dJ9_floorMod_f86c9_22 rfl 2 rfl ?_
  refine aw_ladd (pc := 23) C dJ9_floorMod_f86c9_23 ?_
  exact aw_lreturn (pc := 24) C hr hz0 rfl dJ9_floorMod_f86c9_24
def rmJ9_floorMod_1978a : Room := { frames := 1, cells := 0, slots := 0, locals := 25 }
set_option maxHeartbeats 4000000 in
set_option maxRecDepth 100000 in
theorem okJ9_floorMod_1978a (E : Ev) (l : Launch) (a0 : Int64) (a2 : Int32) (h0 : Mem) : AMet E l yJ9_floorMod_1978a cJ9_floorMod_1978a 3 (some (.int)) rmJ9_floorMod_1978a [.long a0, .int a2] h0 rvI (fJ9_floorMod_1978a a0 a2 h0) := by
  refine am_intro (mathPlain rfl rfl) (Nat.le_of_ble_eq_true rfl) (fun K hKl C hr hnm hz0 => ?_)
  replace C : CxOK K E RJ9 cJ9_floorMod_1978a 3 := C
  have hE : E.1 + 1 ≤ (kS K).heap.size := by omega
  unfold fJ9_floorMod_1978a
  show Aw K E _ _ _ _ _ 0 [(0, .long a0), (2, .int a2)] [] h0 _
  refine aw_lload_n (pc := 0) C dJ9_floorMod_1978a_0 rfl 0 rfl ?_
  refine aw_iload_n (pc := 1) C dJ9_floorMod_1978a_1 rfl 1 rfl ?_
  refine aw_i2l (pc := 2) C dJ9_floorMod_1978a_2 ?_
  refine aw_callSJ (pc := 3) (R := rmJ9_floorMod_1978a) (As := [.long a0, .long a2.toInt64]) (rest := []) (st := [.long a2.toInt64, .long a0]) (c' := 0) (s' := 0) C hE cal_J9_floorMod_f86c9 ml_J9_146 rfl ⟨(Nat.le_of_ble_eq_true rfl), (Nat.le_of_ble_eq_true rfl)⟩ ⟨(Nat.le_of_ble_eq_true rfl), (Nat.le_of_ble_eq_true rfl)⟩ dJ9_floorMod_1978a_3 (okJ9_floorMod_f86c9 E (kL K) a0 a2.toInt64 h0) rfl (Nat.le_of_ble_eq_true rfl) rfl rfl (fun v2 h1 eh1 => ?_)
  refine aw_l2i (pc := 6) C dJ9_floorMod_1978a_6 ?_
  exact aw_ireturn (pc := 7) C hr rfl hz0 rfl dJ9_floorMod_1978a_7
def rmX2_remaindersBy : Room := { frames := 2, cells := 0, slots := 0, locals := 47 }
set_option maxHeartbeats 4000000 in
set_option maxRecDepth 100000 in
theorem okX2_remaindersBy (E : Ev) (l : Launch) (a0 : Nat) (a1 : Int32) (h0 : Mem) : AMet E l yX2_remaindersBy cX2_remaindersBy 5 (some (.int)) rmX2_remaindersBy [rf E a0, .int a1] h0 rvI (fX2_remaindersBy a0 a1 h0) := by
  refine am_intro (plainFor_of_name (by decide +kernel)) (Nat.le_of_ble_eq_true rfl) (fun K hKl C hr hnm hz0 => ?_)
  replace C : CxOK K E RX2 cX2_remaindersBy 5 := C
  have hE : E.1 + 1 ≤ (kS K).heap.size := by omega
  unfold fX2_remaindersBy
  show Aw K E _ _ _ _ _ 0 [(0, rf E a0), (1, .int a1)] [] h0 _
  refine aw_iload_n (pc := 0) C dX2_remaindersBy_0 rfl 1 rfl ?_
  refine aw_iconst (pc := 1) (v := 2) C dX2_remaindersBy_1 (by decide) ?_
  refine aw_icmp_ge (pc := 2) C 7 dX2_remaindersBy_2 (by decide) (fun c20 => ?_) (fun c20 => ?_)
  · refine aw_iconst (pc := 7) (v := 0) C dX2_remaindersBy_7 (by decide) ?_
    refine aw_istore_n (pc := 8) (L' := [(2, .int 0), (0, rf E a0), (1, .int a1)]) C dX2_remaindersBy_8 rfl (by decide) rfl ?_
    refine aw_iconst (pc := 9) (v := 0) C dX2_remaindersBy_9 (by decide) ?_
    refine aw_istore_n (pc := 10) (L' := [(3, .int 0), (2, .int 0), (0, rf E a0), (1, .int a1)]) C dX2_remaindersBy_10 rfl (by decide) rfl ?_
    refine aw_sub (L' := [(0, rf E a0), (1, .int a1), (2, .int 0), (3, .int 0)]) [2, 3, 1, 0] rfl ?_
    refine aw_loop (pc := 11) (σ := Int32 × Int32 × Mem) (fun s => [(0, rf E a0), (1, .int a1), (2, .int s.1), (3, .int s.2.1)]) (fun s => s.2.2) _ (fun k4 ih5 s => ?_) _ _
    obtain ⟨v1, v2, h3⟩ := s
    show Aw K E _ _ _ _ _ 11 [(0, rf E a0), (1, .int a1), (2, .int v1), (3, .int v2)] [] h3 _
    refine aw_iload_n (pc := 11) C dX2_remaindersBy_11 rfl 3 rfl ?_
    refine aw_iload_n (pc := 12) C dX2_remaindersBy_12 rfl 1 rfl ?_
    refine aw_icmp_ge (pc := 13) C 55 dX2_remaindersBy_13 (by decide) (fun c19 => ?_) (fun c19 => ?_)
    · refine aw_iload_n (pc := 55) C dX2_remaindersBy_55 rfl 2 rfl ?_
      exact aw_ireturn (pc := 56) C hr rfl hz0 rfl dX2_remaindersBy_56
    refine aw_iconst (pc := 16) (v := 0) C dX2_remaindersBy_16 (by decide) ?_
    refine aw_istore (pc := 17) (L' := [(4, .int 0), (0, rf E a0), (1, .int a1), (2, .int v1), (3, .int v2)]) C dX2_remaindersBy_17 (by decide) rfl ?_
    refine aw_sub (L' := [(0, rf E a0), (1, .int a1), (2, .int v1), (3, .int v2), (4, .int 0)]) [1, 2, 3, 4, 0] rfl ?_
    refine aw_loop (pc := 19) (σ := Int32 × Int32 × Mem) (fun s => [(0, rf E a0), (1, .int a1), (2, .int s.1), (3, .int v2), (4, .int s.2.1)]) (fun s => s.2.2) _ (fun k9 ih10 s => ?_) _ _
    obtain ⟨v6, v7, h8⟩ := s
    show Aw K E _ _ _ _ _ 19 [(0, rf E a0), (1, .int a1), (2, .int v6), (3, .int v2), (4, .int v7)] [] h8 _
    refine aw_iload (pc := 19) C dX2_remaindersBy_19 4 rfl ?_
    refine aw_iload_n (pc := 21) C dX2_remaindersBy_21 rfl 1 rfl ?_
    refine aw_icmp_ge (pc := 22) C 49 dX2_remaindersBy_22 (by decide) (fun c18 => ?_) (fun c18 => ?_)
    · refine aw_iincN (pc := 49) (L1 := [(0, rf E a0), (1, .int a1), (2, .int v6), (4, .int v7)]) (k := 1) C dX2_remaindersBy_49 3 rfl (by decide) (by decide) rfl (fun v17 ev17 => ?_)
      refine aw_goto (pc := 52) C 11 dX2_remaindersBy_52 (by decide) ?_
      exact aw_sub (L' := [(0, rf E a0), (1, .int a1), (2, .int v6), (3, .int v17)]) [1, 2, 3, 0] rfl (ih5 (v6, v17, h8))
    refine aw_iload_n (pc := 25) C dX2_remaindersBy_25 rfl 2 rfl ?_
    refine aw_iconst (pc := 26) (v := 1) C dX2_remaindersBy_26 (by decide) ?_
    refine aw_aload_n (pc := 27) C dX2_remaindersBy_27 rfl 0 rfl ?_
    refine aw_iload_n (pc := 28) C dX2_remaindersBy_28 rfl 3 rfl ?_
    refine aw_i2l (pc := 29) C dX2_remaindersBy_29 ?_
    refine aw_iload (pc := 30) C dX2_remaindersBy_30 4 rfl ?_
    refine aw_i2l (pc := 32) C dX2_remaindersBy_32 ?_
    refine aw_callVJ (pc := 33) (R := rmX2_remaindersBy) (c := 2) (As := [.long v2.toInt64, .long v7.toInt64]) (rest := [.int 1, .int v6]) (st := [.long v7.toInt64, .long v2.toInt64, rf E a0, .int 1, .int v6]) (c' := 0) (s' := 0) C hE rfl (by decide) cal_X2_at ml_X2_56 rfl ⟨(Nat.le_of_ble_eq_true rfl), (Nat.le_of_ble_eq_true rfl)⟩ ⟨(Nat.le_of_ble_eq_true rfl), (Nat.le_of_ble_eq_true rfl)⟩ dX2_remaindersBy_33 (okX2_at E (kL K) a0 v2.toInt64 v7.toInt64 h8) rfl (Nat.le_of_ble_eq_true rfl) rfl rfl (fun v12 h11 eh11 => ?_)
    refine aw_iload_n (pc := 36) C dX2_remaindersBy_36 rfl 1 rfl ?_
    refine aw_callSI (pc := 37) (R := rmX2_remaindersBy) (As := [.long v12, .int a1]) (rest := [.int 1, .int v6]) (st := [.int a1, .long v12, .int 1, .int v6]) (c' := 0) (s' := 0) C hE cal_J9_floorMod_1978a ml_X2_60 rfl ⟨(Nat.le_of_ble_eq_true rfl), (Nat.le_of_ble_eq_true rfl)⟩ ⟨(Nat.le_of_ble_eq_true rfl), (Nat.le_of_ble_eq_true rfl)⟩ dX2_remaindersBy_37 (okJ9_floorMod_1978a E (kL K) v12 a1 h11) rfl (Nat.le_of_ble_eq_true rfl) rfl rfl (fun v14 h13 eh13 => ?_)
    refine aw_ishl (pc := 40) C dX2_remaindersBy_40 ?_
    refine aw_ior (pc := 41) C dX2_remaindersBy_41 ?_
    refine aw_nmI (pc := 42) (fun v15 ev15 => ?_)
    refine aw_istore_n (pc := 42) (L' := [(2, .int v15), (0, rf E a0), (1, .int a1), (3, .int v2), (4, .int v7)]) C dX2_remaindersBy_42 rfl (by decide) rfl ?_
    refine aw_iincN (pc := 43) (L1 := [(2, .int v15), (0, rf E a0), (1, .int a1), (3, .int v2)]) (k := 1) C dX2_remaindersBy_43 4 rfl (by decide) (by decide) rfl (fun v16 ev16 => ?_)
    refine aw_goto (pc := 46) C 19 dX2_remaindersBy_46 (by decide) ?_
    exact aw_sub (L' := [(0, rf E a0), (1, .int a1), (2, .int v15), (3, .int v2), (4, .int v16)]) [2, 3, 1, 4, 0] rfl (ih10 (v15, v16, h13))
  refine aw_iconst (pc := 5) (v := 0) C dX2_remaindersBy_5 (by decide) ?_
  exact aw_ireturn (pc := 6) C hr rfl hz0 rfl dX2_remaindersBy_6
def rmJ6_bitCount_0f7a4 : Room := { frames := 0, cells := 0, slots := 0, locals := 0 }
set_option maxHeartbeats 4000000 in
set_option maxRecDepth 100000 in
theorem okJ6_bitCount_0f7a4 (E : Ev) (l : Launch) (a0 : Int32) (h0 : Mem) : AMet E l yJ6_bitCount_0f7a4 cJ6_bitCount_0f7a4 1 (some (.int)) rmJ6_bitCount_0f7a4 [.int a0] h0 rvI (fJ6_bitCount_0f7a4 a0 h0) := by
  refine am_intro (plainFor_of_name (by decide +kernel)) (Nat.le_of_ble_eq_true rfl) (fun K hKl C hr hnm hz0 => ?_)
  replace C : CxOK K E RJ6 cJ6_bitCount_0f7a4 1 := C
  have hE : E.1 + 1 ≤ (kS K).heap.size := by omega
  unfold fJ6_bitCount_0f7a4
  show Aw K E _ _ _ _ _ 0 [(0, .int a0)] [] h0 _
  refine aw_iload_n (pc := 0) C dJ6_bitCount_0f7a4_0 rfl 0 rfl ?_
  refine aw_iload_n (pc := 1) C dJ6_bitCount_0f7a4_1 rfl 0 rfl ?_
  refine aw_iconst (pc := 2) (v := 1) C dJ6_bitCount_0f7a4_2 (by decide) ?_
  refine aw_iushr (pc := 3) C dJ6_bitCount_0f7a4_3 rfl ?_
  refine aw_ldcw (pc := 4) (v := 1431655765) C kc_J6_265 dJ6_bitCount_0f7a4_4 ?_
  refine aw_iand (pc := 7) C dJ6_bitCount_0f7a4_7 ?_
  refine aw_isub (pc := 8) C dJ6_bitCount_0f7a4_8 ?_
  refine aw_nmI (pc := 9) (fun v1 ev1 => ?_)
  refine aw_istore_n (pc := 9) (L' := [(0, .int v1)]) C dJ6_bitCount_0f7a4_9 rfl (by decide) rfl ?_
  refine aw_iload_n (pc := 10) C dJ6_bitCount_0f7a4_10 rfl 0 rfl ?_
  refine aw_ldcw (pc := 11) (v := 858993459) C kc_J6_266 dJ6_bitCount_0f7a4_11 ?_
  refine aw_iand (pc := 14) C dJ6_bitCount_0f7a4_14 ?_
  refine aw_iload_n (pc := 15) C dJ6_bitCount_0f7a4_15 rfl 0 rfl ?_
  refine aw_iconst (pc := 16) (v := 2) C dJ6_bitCount_0f7a4_16 (by decide) ?_
  refine aw_iushr (pc := 17) C dJ6_bitCount_0f7a4_17 rfl ?_
  refine aw_ldcw (pc := 18) (v := 858993459) C kc_J6_266 dJ6_bitCount_0f7a4_18 ?_
  refine aw_iand (pc := 21) C dJ6_bitCount_0f7a4_21 ?_
  refine aw_iadd (pc := 22) C dJ6_bitCount_0f7a4_22 ?_
  refine aw_nmI (pc := 23) (fun v2 ev2 => ?_)
  refine aw_istore_n (pc := 23) (L' := [(0, .int v2)]) C dJ6_bitCount_0f7a4_23 rfl (by decide) rfl ?_
  refine aw_iload_n (pc := 24) C dJ6_bitCount_0f7a4_24 rfl 0 rfl ?_
  refine aw_iload_n (pc := 25) C dJ6_bitCount_0f7a4_25 rfl 0 rfl ?_
  refine aw_iconst (pc := 26) (v := 4) C dJ6_bitCount_0f7a4_26 (by decide) ?_
  refine aw_iushr (pc := 27) C dJ6_bitCount_0f7a4_27 rfl ?_
  refine aw_iadd (pc := 28) C dJ6_bitCount_0f7a4_28 ?_
  refine aw_ldcw (pc := 29) (v := 252645135) C kc_J6_267 dJ6_bitCount_0f7a4_29 ?_
  refine aw_iand (pc := 32) C dJ6_bitCount_0f7a4_32 ?_
  refine aw_nmI (pc := 33) (fun v3 ev3 => ?_)
  refine aw_istore_n (pc := 33) (L' := [(0, .int v3)]) C dJ6_bitCount_0f7a4_33 rfl (by decide) rfl ?_
  refine aw_iload_n (pc := 34) C dJ6_bitCount_0f7a4_34 rfl 0 rfl ?_
  refine aw_iload_n (pc := 35) C dJ6_bitCount_0f7a4_35 rfl 0 rfl ?_
  refine aw_bipush (pc := 36) (v := 8) C dJ6_bitCount_0f7a4_36 (by decide) ?_
  refine aw_iushr (pc := 38) C dJ6_bitCount_0f7a4_38 rfl ?_
  refine aw_iadd (pc := 39) C dJ6_bitCount_0f7a4_39 ?_
  refine aw_nmI (pc := 40) (fun v4 ev4 => ?_)
  refine aw_istore_n (pc := 40) (L' := [(0, .int v4)]) C dJ6_bitCount_0f7a4_40 rfl (by decide) rfl ?_
  refine aw_iload_n (pc := 41) C dJ6_bitCount_0f7a4_41 rfl 0 rfl ?_
  refine aw_iload_n (pc := 42) C dJ6_bitCount_0f7a4_42 rfl 0 rfl ?_
  refine aw_bipush (pc := 43) (v := 16) C dJ6_bitCount_0f7a4_43 (by decide) ?_
  refine aw_iushr (pc := 45) C dJ6_bitCount_0f7a4_45 rfl ?_
  refine aw_iadd (pc := 46) C dJ6_bitCount_0f7a4_46 ?_
  refine aw_nmI (pc := 47) (fun v5 ev5 => ?_)
  refine aw_istore_n (pc := 47) (L' := [(0, .int v5)]) C dJ6_bitCount_0f7a4_47 rfl (by decide) rfl ?_
  refine aw_iload_n (pc := 48) C dJ6_bitCount_0f7a4_48 rfl 0 rfl ?_
  refine aw_bipush (pc := 49) (v := 63) C dJ6_bitCount_0f7a4_49 (by decide) ?_
  refine aw_iand (pc := 51) C dJ6_bitCount_0f7a4_51 ?_
  exact aw_ireturn (pc := 52) C hr rfl hz0 rfl dJ6_bitCount_0f7a4_52
def rmJ9_floorMod_7cf53 : Room := { frames := 0, cells := 0, slots := 0, locals := 0 }
set_option maxHeartbeats 4000000 in
set_option maxRecDepth 100000 in
theorem okJ9_floorMod_7cf53 (E : Ev) (l : Launch) (a0 : Int32) (a1 : Int32) (h0 : Mem) : AMet E l yJ9_floorMod_7cf53 cJ9_floorMod_7cf53 3 (some (.int)) rmJ9_floorMod_7cf53 [.int a0, .int a1] h0 rvI (fJ9_floorMod_7cf53 a0 a1 h0) := by
  refine am_intro (mathPlain rfl rfl) (Nat.le_of_ble_eq_true rfl) (fun K hKl C hr hnm hz0 => ?_)
  replace C : CxOK K E RJ9 cJ9_floorMod_7cf53 3 := C
  have hE : E.1 + 1 ≤ (kS K).heap.size := by omega
  unfold fJ9_floorMod_7cf53
  show Aw K E _ _ _ _ _ 0 [(0, .int a0), (1, .int a1)] [] h0 _
  refine aw_iload_n (pc := 0) C dJ9_floorMod_7cf53_0 rfl 0 rfl ?_
  refine aw_iload_n (pc := 1) C dJ9_floorMod_7cf53_1 rfl 1 rfl ?_
  refine aw_irem (pc := 2) C dJ9_floorMod_7cf53_2 (fun z2 => ?_)
  refine aw_nmI (pc := 3) (fun v1 ev1 => ?_)
  refine aw_istore_n (pc := 3) (L' := [(2, .int v1), (0, .int a0), (1, .int a1)]) C dJ9_floorMod_7cf53_3 rfl (by decide) rfl ?_
  refine aw_iload_n (pc := 4) C dJ9_floorMod_7cf53_4 rfl 1 rfl ?_
  refine aw_iload_n (pc := 5) C dJ9_floorMod_7cf53_5 rfl 2 rfl ?_
  refine aw_ixor (pc := 6) C dJ9_floorMod_7cf53_6 ?_
  refine aw_if_ge (pc := 7) C 18 dJ9_floorMod_7cf53_7 (by decide) (fun c3 => ?_) (fun c3 => ?_)
  · refine aw_iload_n (pc := 18) C dJ9_floorMod_7cf53_18 rfl 0 rfl ?_
    exact aw_ireturn (pc := 19) C hr rfl hz0 rfl dJ9_floorMod_7cf53_19
  refine aw_iload_n (pc := 10) C dJ9_floorMod_7cf53_10 rfl 0 rfl ?_
  refine aw_if_eq (pc := 11) C 18 dJ9_floorMod_7cf53_11 (by decide) (fun c2 => ?_) (fun c2 => ?_)
  · refine aw_iload_n (pc := 18) C dJ9_floorMod_7cf53_18 rfl 0 rfl ?_
    exact aw_ireturn (pc := 19) C hr rfl hz0 rfl dJ9_floorMod_7cf53_19
  refine aw_iload_n (pc := 14) C dJ9_floorMod_7cf53_14 rfl 0 rfl ?_
  refine aw_iload_n (pc := 15) C dJ9_floorMod_7cf53_15 rfl 2 rfl ?_
  refine aw_iadd (pc := 16) C dJ9_floorMod_7cf53_16 ?_
  exact aw_ireturn (pc := 17) C hr rfl hz0 rfl dJ9_floorMod_7cf53_17
def rmX1_isBarredBy : Room := { frames := 3, cells := 0, slots := 0, locals := 71 }
set_option maxHeartbeats 4000000 in
set_option maxRecDepth 100000 in
theorem okX1_isBarredBy (E : Ev) (l : Launch) (a0 : Nat) (a1 : Int32) (h0 : Mem) : AMet E l yX1_isBarredBy cX1_isBarredBy 2 (some (.boolean)) rmX1_isBarredBy [rf E a0, .int a1] h0 rvI (fX1_isBarredBy a0 a1 h0) := by
  refine am_intro (plainFor_of_name (by decide +kernel)) (Nat.le_of_ble_eq_true rfl) (fun K hKl C hr hnm hz0 => ?_)
  replace C : CxOK K E RX1 cX1_isBarredBy 2 := C
  have hE : E.1 + 1 ≤ (kS K).heap.size := by omega
  unfold fX1_isBarredBy
  show Aw K E _ _ _ _ _ 0 [(0, rf E a0), (1, .int a1)] [] h0 _
  refine aw_iload_n (pc := 0) C dX1_isBarredBy_0 rfl 1 rfl ?_
  refine aw_iconst (pc := 1) (v := 2) C dX1_isBarredBy_1 (by decide) ?_
  refine aw_icmp_ge (pc := 2) C 7 dX1_isBarredBy_2 (by decide) (fun c8 => ?_) (fun c8 => ?_)
  · refine aw_aload_n (pc := 7) C dX1_isBarredBy_7 rfl 0 rfl ?_
    refine aw_getR (pc := 8) C fl_X1_12 dX1_isBarredBy_8 (fun v1 ev1 => ?_)
    refine aw_iload_n (pc := 11) C dX1_isBarredBy_11 rfl 1 rfl ?_
    refine aw_callVI (pc := 12) (R := rmX1_isBarredBy) (c := 2) (As := [.int a1]) (rest := []) (st := [.int a1, rf E v1]) (c' := 0) (s' := 0) C hE rfl (by decide) cal_X2_remaindersBy ml_X1_43 rfl ⟨(Nat.le_of_ble_eq_true rfl), (Nat.le_of_ble_eq_true rfl)⟩ ⟨(Nat.le_of_ble_eq_true rfl), (Nat.le_of_ble_eq_true rfl)⟩ dX1_isBarredBy_12 (okX2_remaindersBy E (kL K) v1 a1 h0) rfl (Nat.le_of_ble_eq_true rfl) rfl rfl (fun v3 h2 eh2 => ?_)
    refine aw_aload_n (pc := 15) C dX1_isBarredBy_15 rfl 0 rfl ?_
    refine aw_getI (pc := 16) C fl_X1_18 dX1_isBarredBy_16 (fun v4 ev4 => ?_)
    refine aw_iload_n (pc := 19) C dX1_isBarredBy_19 rfl 1 rfl ?_
    refine aw_callSI (pc := 20) (R := rmX1_isBarredBy) (As := [.int v4, .int a1]) (rest := [.int v3]) (st := [.int a1, .int v4, .int v3]) (c' := 0) (s' := 0) C hE cal_J9_floorMod_7cf53 ml_X1_47 rfl ⟨(Nat.le_of_ble_eq_true rfl), (Nat.le_of_ble_eq_true rfl)⟩ ⟨(Nat.le_of_ble_eq_true rfl), (Nat.le_of_ble_eq_true rfl)⟩ dX1_isBarredBy_20 (okJ9_floorMod_7cf53 E (kL K) v4 a1 h2) rfl (Nat.le_of_ble_eq_true rfl) rfl rfl (fun v6 h5 eh5 => ?_)
    refine aw_ishr (pc := 23) C dX1_isBarredBy_23 ?_
    refine aw_iconst (pc := 24) (v := 1) C dX1_isBarredBy_24 (by decide) ?_
    refine aw_iand (pc := 25) C dX1_isBarredBy_25 ?_
    refine aw_if_ne (pc := 26) C 33 dX1_isBarredBy_26 (by decide) (fun c7 => ?_) (fun c7 => ?_)
    · refine aw_iconst (pc := 29) (v := 1) C dX1_isBarredBy_29 (by decide) ?_
      refine aw_goto (pc := 30) C 34 dX1_isBarredBy_30 (by decide) ?_
      exact aw_ireturn (pc := 34) C hr rfl hz0 rfl dX1_isBarredBy_34
    refine aw_iconst (pc := 33) (v := 0) C dX1_isBarredBy_33 (by decide) ?_
    exact aw_ireturn (pc := 34) C hr rfl hz0 rfl dX1_isBarredBy_34
  refine aw_iconst (pc := 5) (v := 0) C dX1_isBarredBy_5 (by decide) ?_
  exact aw_ireturn (pc := 6) C hr rfl hz0 rfl dX1_isBarredBy_6
def rmX9_prime : Room := { frames := 4, cells := 0, slots := 0, locals := 92 }
set_option maxHeartbeats 4000000 in
set_option maxRecDepth 100000 in
theorem okX9_prime (E : Ev) (l : Launch) (a0 : Nat) (a1 : Int32) (a2 : Int32) (h0 : Mem) : AMet E l yX9_prime cX9_prime 4 (some (.int)) rmX9_prime [rf E a0, .int a1, .int a2] h0 rvI (fX9_prime a0 a1 a2 h0) := by
  refine am_intro (plainFor_of_name (by decide +kernel)) (Nat.le_of_ble_eq_true rfl) (fun K hKl C hr hnm hz0 => ?_)
  replace C : CxOK K E RX9 cX9_prime 4 := C
  have hE : E.1 + 1 ≤ (kS K).heap.size := by omega
  unfold fX9_prime
  show Aw K E _ _ _ _ _ 0 [(0, rf E a0), (1, .int a1), (2, .int a2)] [] h0 _
  refine aw_iload_n (pc := 0) C dX9_prime_0 rfl 1 rfl ?_
  refine aw_if_lt (pc := 1) C 12 dX9_prime_1 (by decide) (fun c18 => ?_) (fun c18 => ?_)
  · refine aw_iconst (pc := 12) (v := (-1)) C dX9_prime_12 (by decide) ?_
    exact aw_ireturn (pc := 13) C hr rfl hz0 rfl dX9_prime_13
  refine aw_iload_n (pc := 4) C dX9_prime_4 rfl 1 rfl ?_
  refine aw_getsP (pc := 5) C sl_X9_181 dX9_prime_5 ?_
  refine aw_tlenP (pc := 8) C dX9_prime_8 ?_
  refine aw_icmp_lt (pc := 9) C 14 dX9_prime_9 (by decide) (fun c17 => ?_) (fun c17 => ?_)
  · refine aw_getsP (pc := 14) C sl_X9_181 dX9_prime_14 ?_
    refine aw_iload_n (pc := 17) C dX9_prime_17 rfl 1 rfl ?_
    refine aw_tloadP (pc := 18) C dX9_prime_18 (fun v1 ev1 => ?_)
    refine aw_istore_n (pc := 19) (L' := [(3, .int v1), (0, rf E a0), (1, .int a1), (2, .int a2)]) C dX9_prime_19 rfl (by decide) rfl ?_
    refine aw_iload_n (pc := 20) C dX9_prime_20 rfl 3 rfl ?_
    refine aw_case 0 (fun c2 => ?_) (fun c2 => ?_)
    · refine aw_tableIn (pc := 21) C 0 48 c2 dX9_prime_21 (by decide) (by decide) rfl (by decide) ?_
      refine aw_iload_n (pc := 48) C dX9_prime_48 rfl 0 rfl ?_
      exact aw_ireturn (pc := 49) C hr rfl hz0 rfl dX9_prime_49
    refine aw_case 1 (fun c3 => ?_) (fun c3 => ?_)
    · refine aw_tableIn (pc := 21) C 1 50 c3 dX9_prime_21 (by decide) (by decide) rfl (by decide) ?_
      refine aw_aload_n (pc := 50) C dX9_prime_50 rfl 1 rfl ?_
      refine aw_getR (pc := 51) C fl_X9_12 dX9_prime_51 (fun v4 ev4 => ?_)
      refine aw_getR (pc := 54) C fl_X9_71 dX9_prime_54 (fun v5 ev5 => ?_)
      refine aw_getR (pc := 57) C fl_X9_74 dX9_prime_57 (fun v6 ev6 => ?_)
      refine aw_iload_n (pc := 60) C dX9_prime_60 rfl 0 rfl ?_
      refine aw_callVI (pc := 61) (R := rmX9_prime) (c := 2) (As := [.int v1]) (rest := []) (st := [.int v1, rf E v6]) (c' := 0) (s' := 0) C hE rfl (by decide) cal_X2_remaindersBy ml_X9_185 rfl ⟨(Nat.le_of_ble_eq_true rfl), (Nat.le_of_ble_eq_true rfl)⟩ ⟨(Nat.le_of_ble_eq_true rfl), (Nat.le_of_ble_eq_true rfl)⟩ dX9_prime_61 (okX2_remaindersBy E (kL K) v6 v1 h0) rfl (Nat.le_of_ble_eq_true rfl) rfl rfl (fun v8 h7 eh7 => ?_)
      refine aw_callSI (pc := 64) (R := rmX9_prime) (As := [.int v8]) (rest := []) (st := [.int v8]) (c' := 0) (s' := 0) C hE cal_J6_bitCount_0f7a4 ml_X9_188 rfl ⟨(Nat.le_of_ble_eq_true rfl), (Nat.le_of_ble_eq_true rfl)⟩ ⟨(Nat.le_of_ble_eq_true rfl), (Nat.le_of_ble_eq_true rfl)⟩ dX9_prime_64 (okJ6_bitCount_0f7a4 E (kL K) v8 h7) rfl (Nat.le_of_ble_eq_true rfl) rfl rfl (fun v10 h9 eh9 => ?_)
      exact aw_ireturn (pc := 67) C hr rfl hz0 rfl dX9_prime_67
    refine aw_case 2 (fun c11 => ?_) (fun c11 => ?_)
    · refine aw_tableIn (pc := 21) C 2 68 c11 dX9_prime_21 (by decide) (by decide) rfl (by decide) ?_
      refine aw_aload_n (pc := 68) C dX9_prime_68 rfl 1 rfl ?_
      refine aw_getR (pc := 69) C fl_X9_12 dX9_prime_69 (fun v12 ev12 => ?_)
      refine aw_getR (pc := 72) C fl_X9_71 dX9_prime_72 (fun v13 ev13 => ?_)
      refine aw_iload_n (pc := 75) C dX9_prime_75 rfl 0 rfl ?_
      refine aw_callVI (pc := 76) (R := rmX9_prime) (c := 1) (As := [.int v1]) (rest := []) (st := [.int v1, rf E v13]) (c' := 0) (s' := 0) C hE rfl (by decide) cal_X1_isBarredBy ml_X9_193 rfl ⟨(Nat.le_of_ble_eq_true rfl), (Nat.le_of_ble_eq_true rfl)⟩ ⟨(Nat.le_of_ble_eq_true rfl), (Nat.le_of_ble_eq_true rfl)⟩ dX9_prime_76 (okX1_isBarredBy E (kL K) v13 v1 h0) rfl (Nat.le_of_ble_eq_true rfl) rfl rfl (fun v15 h14 eh14 => ?_)
      refine aw_if_eq (pc := 79) C 86 dX9_prime_79 (by decide) (fun c16 => ?_) (fun c16 => ?_)
      · refine aw_iconst (pc := 86) (v := 0) C dX9_prime_86 (by decide) ?_
        exact aw_ireturn (pc := 87) C hr rfl hz0 rfl dX9_prime_87
      refine aw_iconst (pc := 82) (v := 1) C dX9_prime_82 (by decide) ?_
      refine aw_goto (pc := 83) C 87 dX9_prime_83 (by decide) ?_
      exact aw_ireturn (pc := 87) C hr rfl hz0 rfl dX9_prime_87
    refine aw_tableOut (pc := 21) C 88 dX9_prime_21 (by have qc2 := lv_neT c2 (show (0 : Int32).toInt = 0 by decide); have qc3 := lv_neT c3 (show (1 : Int32).toInt = 1 by decide); have qc11 := lv_neT c11 (show (2 : Int32).toInt = 2 by decide); omega) (by decide) ?_
    refine aw_iconst (pc := 88) (v := (-1)) C dX9_prime_88 (by decide) ?_
    exact aw_ireturn (pc := 89) C hr rfl hz0 rfl dX9_prime_89
  refine aw_iconst (pc := 12) (v := (-1)) C dX9_prime_12 (by decide) ?_
  exact aw_ireturn (pc := 13) C hr rfl hz0 rfl dX9_prime_13
def rmX1_firstBar : Room := { frames := 4, cells := 0, slots := 0, locals := 92 }
set_option maxHeartbeats 4000000 in
set_option maxRecDepth 100000 in
theorem okX1_firstBar (E : Ev) (l : Launch) (a0 : Nat) (h0 : Mem) : AMet E l yX1_firstBar cX1_firstBar 2 (some (.int)) rmX1_firstBar [rf E a0] h0 rvI (fX1_firstBar a0 h0) := by
  refine am_intro (plainFor_of_name (by decide +kernel)) (Nat.le_of_ble_eq_true rfl) (fun K hKl C hr hnm hz0 => ?_)
  replace C : CxOK K E RX1 cX1_firstBar 2 := C
  have hE : E.1 + 1 ≤ (kS K).heap.size := by omega
  unfold fX1_firstBar
  show Aw K E _ _ _ _ _ 0 [(0, rf E a0)] [] h0 _
  refine aw_iconst (pc := 0) (v := 0) C dX1_firstBar_0 (by decide) ?_
  refine aw_istore_n (pc := 1) (L' := [(1, .int 0), (0, rf E a0)]) C dX1_firstBar_1 rfl (by decide) rfl ?_
  refine aw_sub (L' := [(0, rf E a0), (1, .int 0)]) [1, 0] rfl ?_
  refine aw_loop (pc := 2) (σ := Int32 × Mem) (fun s => [(0, rf E a0), (1, .int s.1)]) (fun s => s.2) _ (fun k3 ih4 s => ?_) _ _
  obtain ⟨v1, h2⟩ := s
  show Aw K E _ _ _ _ _ 2 [(0, rf E a0), (1, .int v1)] [] h2 _
  refine aw_iload_n (pc := 2) C dX1_firstBar_2 rfl 1 rfl ?_
  refine aw_getsPN (pc := 3) C sl_X1_53 dX1_firstBar_3 ?_
  refine aw_tlenP (pc := 6) C dX1_firstBar_6 ?_
  refine aw_icmp_ge (pc := 7) C 34 dX1_firstBar_7 (by decide) (fun c11 => ?_) (fun c11 => ?_)
  · refine aw_bipush (pc := 34) (v := (-5)) C dX1_firstBar_34 (by decide) ?_
    exact aw_ireturn (pc := 36) C hr rfl hz0 rfl dX1_firstBar_36
  refine aw_aload_n (pc := 10) C dX1_firstBar_10 rfl 0 rfl ?_
  refine aw_getsPN (pc := 11) C sl_X1_53 dX1_firstBar_11 ?_
  refine aw_iload_n (pc := 14) C dX1_firstBar_14 rfl 1 rfl ?_
  refine aw_tloadP (pc := 15) C dX1_firstBar_15 (fun v5 ev5 => ?_)
  refine aw_callVI (pc := 16) (R := rmX1_firstBar) (c := 1) (As := [.int v5]) (rest := []) (st := [.int v5, rf E a0]) (c' := 0) (s' := 0) C hE rfl (by decide) cal_X1_isBarredBy ml_X1_57 rfl ⟨(Nat.le_of_ble_eq_true rfl), (Nat.le_of_ble_eq_true rfl)⟩ ⟨(Nat.le_of_ble_eq_true rfl), (Nat.le_of_ble_eq_true rfl)⟩ dX1_firstBar_16 (okX1_isBarredBy E (kL K) a0 v5 h2) rfl (Nat.le_of_ble_eq_true rfl) rfl rfl (fun v7 h6 eh6 => ?_)
  refine aw_if_eq (pc := 19) C 28 dX1_firstBar_19 (by decide) (fun c10 => ?_) (fun c10 => ?_)
  · refine aw_iincN (pc := 28) (L1 := [(0, rf E a0)]) (k := 1) C dX1_firstBar_28 1 rfl (by decide) (by decide) rfl (fun v9 ev9 => ?_)
    refine aw_goto (pc := 31) C 2 dX1_firstBar_31 (by decide) ?_
    exact aw_sub (L' := [(0, rf E a0), (1, .int v9)]) [1, 0] rfl (ih4 (v9, h6))
  refine aw_getsPN (pc := 22) C sl_X1_53 dX1_firstBar_22 ?_
  refine aw_iload_n (pc := 25) C dX1_firstBar_25 rfl 1 rfl ?_
  refine aw_tloadP (pc := 26) C dX1_firstBar_26 (fun v8 ev8 => ?_)
  exact aw_ireturn (pc := 27) C hr rfl hz0 rfl dX1_firstBar_27
def rmX9_reason : Room := { frames := 5, cells := 0, slots := 0, locals := 165 }
set_option maxHeartbeats 4000000 in
set_option maxRecDepth 100000 in
theorem okX9_reason (E : Ev) (l : Launch) (a0 : Nat) (a1 : Int32) (h0 : Mem) : AMet E l yX9_reason cX9_reason 3 (some (.int)) rmX9_reason [rf E a0, .int a1] h0 rvI (fX9_reason a0 a1 h0) := by
  refine am_intro (plainFor_of_name (by decide +kernel)) (Nat.le_of_ble_eq_true rfl) (fun K hKl C hr hnm hz0 => ?_)
  replace C : CxOK K E RX9 cX9_reason 3 := C
  have hE : E.1 + 1 ≤ (kS K).heap.size := by omega
  unfold fX9_reason
  show Aw K E _ _ _ _ _ 0 [(0, rf E a0), (1, .int a1)] [] h0 _
  refine aw_iload_n (pc := 0) C dX9_reason_0 rfl 1 rfl ?_
  refine aw_if_ge (pc := 1) C 6 dX9_reason_1 (by decide) (fun c23 => ?_) (fun c23 => ?_)
  · refine aw_iload_n (pc := 6) C dX9_reason_6 rfl 1 rfl ?_
    refine aw_iconst (pc := 7) (v := 2) C dX9_reason_7 (by decide) ?_
    refine aw_icmp_gt (pc := 8) C 21 dX9_reason_8 (by decide) (fun c22 => ?_) (fun c22 => ?_)
    · refine aw_bipush (pc := 21) (v := (-5)) C dX9_reason_21 (by decide) ?_
      exact aw_ireturn (pc := 23) C hr rfl hz0 rfl dX9_reason_23
    refine aw_aload_n (pc := 11) C dX9_reason_11 rfl 0 rfl ?_
    refine aw_callVR (pc := 12) (R := rmX9_reason) (c := 9) (As := []) (rest := []) (st := [rf E a0]) (c' := 0) (s' := 0) C hE rfl (by decide) cal_X9_answersNow ml_X9_139 rfl ⟨(Nat.le_of_ble_eq_true rfl), (Nat.le_of_ble_eq_true rfl)⟩ ⟨(Nat.le_of_ble_eq_true rfl), (Nat.le_of_ble_eq_true rfl)⟩ dX9_reason_12 (okX9_answersNow E (kL K) a0 h0) rfl (Nat.le_of_ble_eq_true rfl) rfl rfl (fun h1 eh1 => ?_) (fun v2 h1 ev2 nv2 => ?_)
    · refine aw_itt rfl ?_
      exact aw_none
    refine aw_itf nv2 ?_
    refine aw_getI (pc := 15) C fl_X9_143 dX9_reason_15 (fun v3 ev3 => ?_)
    refine aw_if_le (pc := 18) C 24 dX9_reason_18 (by decide) (fun c21 => ?_) (fun c21 => ?_)
    · refine aw_iload_n (pc := 24) C dX9_reason_24 rfl 1 rfl ?_
      refine aw_if_ne (pc := 25) C 39 dX9_reason_25 (by decide) (fun c20 => ?_) (fun c20 => ?_)
      · refine aw_aload_n (pc := 28) C dX9_reason_28 rfl 0 rfl ?_
        refine aw_getR (pc := 29) C fl_X9_12 dX9_reason_29 (fun v4 ev4 => ?_)
        refine aw_getR (pc := 32) C fl_X9_71 dX9_reason_32 (fun v5 ev5 => ?_)
        refine aw_getI (pc := 35) C fl_X9_103 dX9_reason_35 (fun v6 ev6 => ?_)
        exact aw_ireturn (pc := 38) C hr rfl hz0 rfl dX9_reason_38
      refine aw_aload_n (pc := 39) C dX9_reason_39 rfl 0 rfl ?_
      refine aw_getR (pc := 40) C fl_X9_12 dX9_reason_40 (fun v7 ev7 => ?_)
      refine aw_getR (pc := 43) C fl_X9_71 dX9_reason_43 (fun v8 ev8 => ?_)
      refine aw_callVI (pc := 46) (R := rmX9_reason) (c := 1) (As := []) (rest := []) (st := [rf E v8]) (c' := 0) (s' := 0) C hE rfl (by decide) cal_X1_firstBar ml_X9_196 rfl ⟨(Nat.le_of_ble_eq_true rfl), (Nat.le_of_ble_eq_true rfl)⟩ ⟨(Nat.le_of_ble_eq_true rfl), (Nat.le_of_ble_eq_true rfl)⟩ dX9_reason_46 (okX1_firstBar E (kL K) v8 h1) rfl (Nat.le_of_ble_eq_true rfl) rfl rfl (fun v10 h9 eh9 => ?_)
      refine aw_istore_n (pc := 49) (L' := [(2, .int v10), (0, rf E a0), (1, .int a1)]) C dX9_reason_49 rfl (by decide) rfl ?_
      refine aw_iload_n (pc := 50) C dX9_reason_50 rfl 2 rfl ?_
      refine aw_iconst (pc := 51) (v := 1) C dX9_reason_51 (by decide) ?_
      refine aw_icmp_eq (pc := 52) C 61 dX9_reason_52 (by decide) (fun c19 => ?_) (fun c19 => ?_)
      · refine aw_iload_n (pc := 61) C dX9_reason_61 rfl 0 rfl ?_
        exact aw_ireturn (pc := 62) C hr rfl hz0 rfl dX9_reason_62
      refine aw_iload_n (pc := 55) C dX9_reason_55 rfl 0 rfl ?_
      refine aw_bipush (pc := 56) (v := (-5)) C dX9_reason_56 (by decide) ?_
      refine aw_icmp_ne (pc := 58) C 63 dX9_reason_58 (by decide) (fun c18 => ?_) (fun c18 => ?_)
      · refine aw_iload_n (pc := 61) C dX9_reason_61 rfl 0 rfl ?_
        exact aw_ireturn (pc := 62) C hr rfl hz0 rfl dX9_reason_62
      refine aw_aload_n (pc := 63) C dX9_reason_63 rfl 1 rfl ?_
      refine aw_getR (pc := 64) C fl_X9_12 dX9_reason_64 (fun v11 ev11 => ?_)
      refine aw_getR (pc := 67) C fl_X9_71 dX9_reason_67 (fun v12 ev12 => ?_)
      refine aw_getR (pc := 70) C fl_X9_74 dX9_reason_70 (fun v13 ev13 => ?_)
      refine aw_iload_n (pc := 73) C dX9_reason_73 rfl 0 rfl ?_
      refine aw_callVI (pc := 74) (R := rmX9_reason) (c := 2) (As := [.int v10]) (rest := []) (st := [.int v10, rf E v13]) (c' := 0) (s' := 0) C hE rfl (by decide) cal_X2_remaindersBy ml_X9_185 rfl ⟨(Nat.le_of_ble_eq_true rfl), (Nat.le_of_ble_eq_true rfl)⟩ ⟨(Nat.le_of_ble_eq_true rfl), (Nat.le_of_ble_eq_true rfl)⟩ dX9_reason_74 (okX2_remaindersBy E (kL K) v13 v10 h9) rfl (Nat.le_of_ble_eq_true rfl) rfl rfl (fun v15 h14 eh14 => ?_)
      refine aw_callSI (pc := 77) (R := rmX9_reason) (As := [.int v15]) (rest := []) (st := [.int v15]) (c' := 0) (s' := 0) C hE cal_J6_bitCount_0f7a4 ml_X9_188 rfl ⟨(Nat.le_of_ble_eq_true rfl), (Nat.le_of_ble_eq_true rfl)⟩ ⟨(Nat.le_of_ble_eq_true rfl), (Nat.le_of_ble_eq_true rfl)⟩ dX9_reason_77 (okJ6_bitCount_0f7a4 E (kL K) v15 h14) rfl (Nat.le_of_ble_eq_true rfl) rfl rfl (fun v17 h16 eh16 => ?_)
      exact aw_ireturn (pc := 80) C hr rfl hz0 rfl dX9_reason_80
    refine aw_bipush (pc := 21) (v := (-5)) C dX9_reason_21 (by decide) ?_
    exact aw_ireturn (pc := 23) C hr rfl hz0 rfl dX9_reason_23
  refine aw_iconst (pc := 4) (v := (-1)) C dX9_reason_4 (by decide) ?_
  exact aw_ireturn (pc := 5) C hr rfl hz0 rfl dX9_reason_5
def rmX9_unit : Room := { frames := 5, cells := 0, slots := 0, locals := 121 }
set_option maxHeartbeats 4000000 in
set_option maxRecDepth 100000 in
theorem okX9_unit (E : Ev) (l : Launch) (a0 : Nat) (a1 : Int32) (a2 : Int32) (h0 : Mem) : AMet E l yX9_unit cX9_unit 4 (some (.int)) rmX9_unit [rf E a0, .int a1, .int a2] h0 rvI (fX9_unit a0 a1 a2 h0) := by
  refine am_intro (plainFor_of_name (by decide +kernel)) (Nat.le_of_ble_eq_true rfl) (fun K hKl C hr hnm hz0 => ?_)
  replace C : CxOK K E RX9 cX9_unit 4 := C
  have hE : E.1 + 1 ≤ (kS K).heap.size := by omega
  unfold fX9_unit
  show Aw K E _ _ _ _ _ 0 [(0, rf E a0), (1, .int a1), (2, .int a2)] [] h0 _
  refine aw_iload_n (pc := 0) C dX9_unit_0 rfl 1 rfl ?_
  refine aw_if_lt (pc := 1) C 13 dX9_unit_1 (by decide) (fun c10 => ?_) (fun c10 => ?_)
  · refine aw_iconst (pc := 13) (v := (-1)) C dX9_unit_13 (by decide) ?_
    exact aw_ireturn (pc := 14) C hr rfl hz0 rfl dX9_unit_14
  refine aw_iload_n (pc := 4) C dX9_unit_4 rfl 2 rfl ?_
  refine aw_iconst (pc := 5) (v := 0) C dX9_unit_5 (by decide) ?_
  refine aw_iconst (pc := 6) (v := 3) C dX9_unit_6 (by decide) ?_
  refine aw_callSI (pc := 7) (R := rmX9_unit) (As := [.int a2, .int 0, .int 3]) (rest := []) (st := [.int 3, .int 0, .int a2]) (c' := 0) (s' := 0) C hE cal_X9_between ml_X9_67 rfl ⟨(Nat.le_of_ble_eq_true rfl), (Nat.le_of_ble_eq_true rfl)⟩ ⟨(Nat.le_of_ble_eq_true rfl), (Nat.le_of_ble_eq_true rfl)⟩ dX9_unit_7 (okX9_between E (kL K) a2 0 3 h0) rfl (Nat.le_of_ble_eq_true rfl) rfl rfl (fun v2 h1 eh1 => ?_)
  refine aw_if_ne (pc := 10) C 15 dX9_unit_10 (by decide) (fun c9 => ?_) (fun c9 => ?_)
  · refine aw_iconst (pc := 13) (v := (-1)) C dX9_unit_13 (by decide) ?_
    exact aw_ireturn (pc := 14) C hr rfl hz0 rfl dX9_unit_14
  refine aw_aload_n (pc := 15) C dX9_unit_15 rfl 0 rfl ?_
  refine aw_callVR (pc := 16) (R := rmX9_unit) (c := 9) (As := []) (rest := []) (st := [rf E a0]) (c' := 0) (s' := 0) C hE rfl (by decide) cal_X9_unitsNow ml_X9_144 rfl ⟨(Nat.le_of_ble_eq_true rfl), (Nat.le_of_ble_eq_true rfl)⟩ ⟨(Nat.le_of_ble_eq_true rfl), (Nat.le_of_ble_eq_true rfl)⟩ dX9_unit_16 (okX9_unitsNow E (kL K) a0 h1) rfl (Nat.le_of_ble_eq_true rfl) rfl rfl (fun h3 eh3 => ?_) (fun v4 h3 ev4 nv4 => ?_)
  · refine aw_itt rfl ?_
    exact aw_none
  refine aw_itf nv4 ?_
  refine aw_astore_n (pc := 19) (L' := [(3, rf E v4), (0, rf E a0), (1, .int a1), (2, .int a2)]) C dX9_unit_19 rfl (by decide) rfl ?_
  refine aw_iload_n (pc := 20) C dX9_unit_20 rfl 2 rfl ?_
  refine aw_aload_n (pc := 21) C dX9_unit_21 rfl 0 rfl ?_
  refine aw_getI (pc := 22) C fl_X9_148 dX9_unit_22 (fun v5 ev5 => ?_)
  refine aw_icmp_ge (pc := 25) C 40 dX9_unit_25 (by decide) (fun c8 => ?_) (fun c8 => ?_)
  · refine aw_bipush (pc := 40) (v := (-5)) C dX9_unit_40 (by decide) ?_
    exact aw_ireturn (pc := 42) C hr rfl hz0 rfl dX9_unit_42
  refine aw_aload_n (pc := 28) C dX9_unit_28 rfl 0 rfl ?_
  refine aw_iload_n (pc := 29) C dX9_unit_29 rfl 2 rfl ?_
  refine aw_iload_n (pc := 30) C dX9_unit_30 rfl 3 rfl ?_
  refine aw_callVI (pc := 31) (R := rmX9_unit) (c := 8) (As := [.int a1, .int a2]) (rest := []) (st := [.int a2, .int a1, rf E v4]) (c' := 0) (s' := 0) C hE rfl (by decide) cal_X8_get ml_X9_199 rfl ⟨(Nat.le_of_ble_eq_true rfl), (Nat.le_of_ble_eq_true rfl)⟩ ⟨(Nat.le_of_ble_eq_true rfl), (Nat.le_of_ble_eq_true rfl)⟩ dX9_unit_31 (okX8_get E (kL K) v4 a1 a2 h3) rfl (Nat.le_of_ble_eq_true rfl) rfl rfl (fun v7 h6 eh6 => ?_)
  refine aw_bipush (pc := 34) (v := 10) C dX9_unit_34 (by decide) ?_
  refine aw_iadd (pc := 36) C dX9_unit_36 ?_
  refine aw_goto (pc := 37) C 42 dX9_unit_37 (by decide) ?_
  exact aw_ireturn (pc := 42) C hr rfl hz0 rfl dX9_unit_42
def rmX0_sizeOfFamily : Room := { frames := 0, cells := 0, slots := 0, locals := 0 }
set_option maxHeartbeats 4000000 in
set_option maxRecDepth 100000 in
theorem okX0_sizeOfFamily (E : Ev) (l : Launch) (a0 : Nat) (a1 : Int32) (h0 : Mem) : AMet E l yX0_sizeOfFamily cX0_sizeOfFamily 4 (some (.int)) rmX0_sizeOfFamily [rf E a0, .int a1] h0 rvI (fX0_sizeOfFamily a0 a1 h0) := by
  refine am_intro (plainFor_of_name (by decide +kernel)) (Nat.le_of_ble_eq_true rfl) (fun K hKl C hr hnm hz0 => ?_)
  replace C : CxOK K E RX0 cX0_sizeOfFamily 4 := C
  have hE : E.1 + 1 ≤ (kS K).heap.size := by omega
  unfold fX0_sizeOfFamily
  show Aw K E _ _ _ _ _ 0 [(0, rf E a0), (1, .int a1)] [] h0 _
  refine aw_iconst (pc := 0) (v := 0) C dX0_sizeOfFamily_0 (by decide) ?_
  refine aw_istore_n (pc := 1) (L' := [(2, .int 0), (0, rf E a0), (1, .int a1)]) C dX0_sizeOfFamily_1 rfl (by decide) rfl ?_
  refine aw_iconst (pc := 2) (v := 0) C dX0_sizeOfFamily_2 (by decide) ?_
  refine aw_istore_n (pc := 3) (L' := [(3, .int 0), (2, .int 0), (0, rf E a0), (1, .int a1)]) C dX0_sizeOfFamily_3 rfl (by decide) rfl ?_
  refine aw_sub (L' := [(0, rf E a0), (1, .int a1), (2, .int 0), (3, .int 0)]) [2, 3, 1, 0] rfl ?_
  refine aw_loop (pc := 4) (σ := Int32 × Int32) (fun s => [(0, rf E a0), (1, .int a1), (2, .int s.1), (3, .int s.2)]) (fun s => h0) _ (fun k3 ih4 s => ?_) _ _
  obtain ⟨v1, v2⟩ := s
  show Aw K E _ _ _ _ _ 4 [(0, rf E a0), (1, .int a1), (2, .int v1), (3, .int v2)] [] h0 _
  refine aw_iload_n (pc := 4) C dX0_sizeOfFamily_4 rfl 3 rfl ?_
  refine aw_aload_n (pc := 5) C dX0_sizeOfFamily_5 rfl 0 rfl ?_
  refine aw_getR (pc := 6) C fl_X0_32 dX0_sizeOfFamily_6 (fun v5 ev5 => ?_)
  refine aw_arraylength (pc := 9) C dX0_sizeOfFamily_9 (fun v6 ev6 => ?_)
  refine aw_icmp_ge (pc := 10) C 32 dX0_sizeOfFamily_10 (by decide) (fun c13 => ?_) (fun c13 => ?_)
  · refine aw_iload_n (pc := 32) C dX0_sizeOfFamily_32 rfl 2 rfl ?_
    exact aw_ireturn (pc := 33) C hr rfl hz0 rfl dX0_sizeOfFamily_33
  refine aw_aload_n (pc := 13) C dX0_sizeOfFamily_13 rfl 0 rfl ?_
  refine aw_getR (pc := 14) C fl_X0_32 dX0_sizeOfFamily_14 (fun v7 ev7 => ?_)
  refine aw_iload_n (pc := 17) C dX0_sizeOfFamily_17 rfl 3 rfl ?_
  refine aw_iaload (pc := 18) C dX0_sizeOfFamily_18 (fun v8 ev8 => ?_)
  refine aw_iload_n (pc := 19) C dX0_sizeOfFamily_19 rfl 1 rfl ?_
  refine aw_icmp_ne (pc := 20) C 26 dX0_sizeOfFamily_20 (by decide) (fun c12 => ?_) (fun c12 => ?_)
  · refine aw_iincN (pc := 23) (L1 := [(0, rf E a0), (1, .int a1), (3, .int v2)]) (k := 1) C dX0_sizeOfFamily_23 2 rfl (by decide) (by decide) rfl (fun v9 ev9 => ?_)
    refine aw_iincN (pc := 26) (L1 := [(2, .int v9), (0, rf E a0), (1, .int a1)]) (k := 1) C dX0_sizeOfFamily_26 3 rfl (by decide) (by decide) rfl (fun v10 ev10 => ?_)
    refine aw_goto (pc := 29) C 4 dX0_sizeOfFamily_29 (by decide) ?_
    exact aw_sub (L' := [(0, rf E a0), (1, .int a1), (2, .int v9), (3, .int v10)]) [2, 3, 1, 0] rfl (ih4 (v9, v10))
  refine aw_iincN (pc := 26) (L1 := [(0, rf E a0), (1, .int a1), (2, .int v1)]) (k := 1) C dX0_sizeOfFamily_26 3 rfl (by decide) (by decide) rfl (fun v11 ev11 => ?_)
  refine aw_goto (pc := 29) C 4 dX0_sizeOfFamily_29 (by decide) ?_
  exact aw_sub (L' := [(0, rf E a0), (1, .int a1), (2, .int v1), (3, .int v11)]) [1, 2, 3, 0] rfl (ih4 (v1, v11))
def rmX9_family : Room := { frames := 6, cells := 0, slots := 0, locals := 165 }
set_option maxHeartbeats 4000000 in
set_option maxRecDepth 100000 in
theorem okX9_family (E : Ev) (l : Launch) (a0 : Nat) (a1 : Int32) (h0 : Mem) : AMet E l yX9_family cX9_family 3 (some (.int)) rmX9_family [rf E a0, .int a1] h0 rvI (fX9_family a0 a1 h0) := by
  refine am_intro (plainFor_of_name (by decide +kernel)) (Nat.le_of_ble_eq_true rfl) (fun K hKl C hr hnm hz0 => ?_)
  replace C : CxOK K E RX9 cX9_family 3 := C
  have hE : E.1 + 1 ≤ (kS K).heap.size := by omega
  unfold fX9_family
  show Aw K E _ _ _ _ _ 0 [(0, rf E a0), (1, .int a1)] [] h0 _
  refine aw_iload_n (pc := 0) C dX9_family_0 rfl 1 rfl ?_
  refine aw_if_ge (pc := 1) C 6 dX9_family_1 (by decide) (fun c7 => ?_) (fun c7 => ?_)
  · refine aw_aload_n (pc := 6) C dX9_family_6 rfl 0 rfl ?_
    refine aw_callVR (pc := 7) (R := rmX9_family) (c := 9) (As := []) (rest := []) (st := [rf E a0]) (c' := 0) (s' := 0) C hE rfl (by decide) cal_X9_answersInFamilies ml_X9_149 rfl ⟨(Nat.le_of_ble_eq_true rfl), (Nat.le_of_ble_eq_true rfl)⟩ ⟨(Nat.le_of_ble_eq_true rfl), (Nat.le_of_ble_eq_true rfl)⟩ dX9_family_7 (okX9_answersInFamilies E (kL K) a0 h0) rfl (Nat.le_of_ble_eq_true rfl) rfl rfl (fun h1 eh1 => ?_) (fun v2 h1 ev2 nv2 => ?_)
    · refine aw_itt rfl ?_
      exact aw_none
    refine aw_itf nv2 ?_
    refine aw_astore_n (pc := 10) (L' := [(2, rf E v2), (0, rf E a0), (1, .int a1)]) C dX9_family_10 rfl (by decide) rfl ?_
    refine aw_iload_n (pc := 11) C dX9_family_11 rfl 2 rfl ?_
    refine aw_aload_n (pc := 12) C dX9_family_12 rfl 0 rfl ?_
    refine aw_getI (pc := 13) C fl_X9_152 dX9_family_13 (fun v3 ev3 => ?_)
    refine aw_icmp_ge (pc := 16) C 27 dX9_family_16 (by decide) (fun c6 => ?_) (fun c6 => ?_)
    · refine aw_bipush (pc := 27) (v := (-5)) C dX9_family_27 (by decide) ?_
      exact aw_ireturn (pc := 29) C hr rfl hz0 rfl dX9_family_29
    refine aw_aload_n (pc := 19) C dX9_family_19 rfl 0 rfl ?_
    refine aw_iload_n (pc := 20) C dX9_family_20 rfl 2 rfl ?_
    refine aw_callVI (pc := 21) (R := rmX9_family) (c := 0) (As := [.int a1]) (rest := []) (st := [.int a1, rf E v2]) (c' := 0) (s' := 0) C hE rfl (by decide) cal_X0_sizeOfFamily ml_X9_202 rfl ⟨(Nat.le_of_ble_eq_true rfl), (Nat.le_of_ble_eq_true rfl)⟩ ⟨(Nat.le_of_ble_eq_true rfl), (Nat.le_of_ble_eq_true rfl)⟩ dX9_family_21 (okX0_sizeOfFamily E (kL K) v2 a1 h1) rfl (Nat.le_of_ble_eq_true rfl) rfl rfl (fun v5 h4 eh4 => ?_)
    refine aw_goto (pc := 24) C 29 dX9_family_24 (by decide) ?_
    exact aw_ireturn (pc := 29) C hr rfl hz0 rfl dX9_family_29
  refine aw_iconst (pc := 4) (v := (-1)) C dX9_family_4 (by decide) ?_
  exact aw_ireturn (pc := 5) C hr rfl hz0 rfl dX9_family_5
def rmX3_get : Room := { frames := 0, cells := 0, slots := 0, locals := 0 }
set_option maxHeartbeats 4000000 in
set_option maxRecDepth 100000 in
theorem okX3_get (E : Ev) (l : Launch) (a0 : Nat) (a1 : Int32) (h0 : Mem) : AMet E l yX3_get cX3_get 2 (some (.int)) rmX3_get [rf E a0, .int a1] h0 rvI (fX3_get a0 a1 h0) := by
  refine am_intro (plainFor_of_name (by decide +kernel)) (Nat.le_of_ble_eq_true rfl) (fun K hKl C hr hnm hz0 => ?_)
  replace C : CxOK K E RX3 cX3_get 2 := C
  have hE : E.1 + 1 ≤ (kS K).heap.size := by omega
  unfold fX3_get
  show Aw K E _ _ _ _ _ 0 [(0, rf E a0), (1, .int a1)] [] h0 _
  refine aw_iload_n (pc := 0) C dX3_get_0 rfl 1 rfl ?_
  refine aw_if_lt (pc := 1) C 27 dX3_get_1 (by decide) (fun c6 => ?_) (fun c6 => ?_)
  · refine aw_iconst (pc := 27) (v := 0) C dX3_get_27 (by decide) ?_
    exact aw_ireturn (pc := 28) C hr rfl hz0 rfl dX3_get_28
  refine aw_iload_n (pc := 4) C dX3_get_4 rfl 1 rfl ?_
  refine aw_aload_n (pc := 5) C dX3_get_5 rfl 0 rfl ?_
  refine aw_getI (pc := 6) C fl_X3_9 dX3_get_6 (fun v1 ev1 => ?_)
  refine aw_icmp_ge (pc := 9) C 27 dX3_get_9 (by decide) (fun c5 => ?_) (fun c5 => ?_)
  · refine aw_iconst (pc := 27) (v := 0) C dX3_get_27 (by decide) ?_
    exact aw_ireturn (pc := 28) C hr rfl hz0 rfl dX3_get_28
  refine aw_iload_n (pc := 12) C dX3_get_12 rfl 1 rfl ?_
  refine aw_bipush (pc := 13) (v := 8) C dX3_get_13 (by decide) ?_
  refine aw_icmp_ge (pc := 15) C 27 dX3_get_15 (by decide) (fun c4 => ?_) (fun c4 => ?_)
  · refine aw_iconst (pc := 27) (v := 0) C dX3_get_27 (by decide) ?_
    exact aw_ireturn (pc := 28) C hr rfl hz0 rfl dX3_get_28
  refine aw_aload_n (pc := 18) C dX3_get_18 rfl 0 rfl ?_
  refine aw_getR (pc := 19) C fl_X3_22 dX3_get_19 (fun v2 ev2 => ?_)
  refine aw_iload_n (pc := 22) C dX3_get_22 rfl 1 rfl ?_
  refine aw_iaload (pc := 23) C dX3_get_23 (fun v3 ev3 => ?_)
  refine aw_goto (pc := 24) C 28 dX3_get_24 (by decide) ?_
  exact aw_ireturn (pc := 28) C hr rfl hz0 rfl dX3_get_28
def rmX9_part : Room := { frames := 4, cells := 0, slots := 0, locals := 93 }
set_option maxHeartbeats 4000000 in
set_option maxRecDepth 100000 in
theorem okX9_part (E : Ev) (l : Launch) (a0 : Nat) (a1 : Int32) (h0 : Mem) : AMet E l yX9_part cX9_part 3 (some (.int)) rmX9_part [rf E a0, .int a1] h0 rvI (fX9_part a0 a1 h0) := by
  refine am_intro (plainFor_of_name (by decide +kernel)) (Nat.le_of_ble_eq_true rfl) (fun K hKl C hr hnm hz0 => ?_)
  replace C : CxOK K E RX9 cX9_part 3 := C
  have hE : E.1 + 1 ≤ (kS K).heap.size := by omega
  unfold fX9_part
  show Aw K E _ _ _ _ _ 0 [(0, rf E a0), (1, .int a1)] [] h0 _
  refine aw_iload_n (pc := 0) C dX9_part_0 rfl 1 rfl ?_
  refine aw_if_ge (pc := 1) C 6 dX9_part_1 (by decide) (fun c7 => ?_) (fun c7 => ?_)
  · refine aw_aload_n (pc := 6) C dX9_part_6 rfl 0 rfl ?_
    refine aw_callVR (pc := 7) (R := rmX9_part) (c := 9) (As := []) (rest := []) (st := [rf E a0]) (c' := 0) (s' := 0) C hE rfl (by decide) cal_X9_partsNow ml_X9_155 rfl ⟨(Nat.le_of_ble_eq_true rfl), (Nat.le_of_ble_eq_true rfl)⟩ ⟨(Nat.le_of_ble_eq_true rfl), (Nat.le_of_ble_eq_true rfl)⟩ dX9_part_7 (okX9_partsNow E (kL K) a0 h0) rfl (Nat.le_of_ble_eq_true rfl) rfl rfl (fun h1 eh1 => ?_) (fun v2 h1 ev2 nv2 => ?_)
    · refine aw_itt rfl ?_
      exact aw_none
    refine aw_itf nv2 ?_
    refine aw_astore_n (pc := 10) (L' := [(2, rf E v2), (0, rf E a0), (1, .int a1)]) C dX9_part_10 rfl (by decide) rfl ?_
    refine aw_iload_n (pc := 11) C dX9_part_11 rfl 2 rfl ?_
    refine aw_aload_n (pc := 12) C dX9_part_12 rfl 0 rfl ?_
    refine aw_getI (pc := 13) C fl_X9_159 dX9_part_13 (fun v3 ev3 => ?_)
    refine aw_icmp_ge (pc := 16) C 27 dX9_part_16 (by decide) (fun c6 => ?_) (fun c6 => ?_)
    · refine aw_bipush (pc := 27) (v := (-5)) C dX9_part_27 (by decide) ?_
      exact aw_ireturn (pc := 29) C hr rfl hz0 rfl dX9_part_29
    refine aw_aload_n (pc := 19) C dX9_part_19 rfl 0 rfl ?_
    refine aw_iload_n (pc := 20) C dX9_part_20 rfl 2 rfl ?_
    refine aw_callVI (pc := 21) (R := rmX9_part) (c := 3) (As := [.int a1]) (rest := []) (st := [.int a1, rf E v2]) (c' := 0) (s' := 0) C hE rfl (by decide) cal_X3_get ml_X9_205 rfl ⟨(Nat.le_of_ble_eq_true rfl), (Nat.le_of_ble_eq_true rfl)⟩ ⟨(Nat.le_of_ble_eq_true rfl), (Nat.le_of_ble_eq_true rfl)⟩ dX9_part_21 (okX3_get E (kL K) v2 a1 h1) rfl (Nat.le_of_ble_eq_true rfl) rfl rfl (fun v5 h4 eh4 => ?_)
    refine aw_goto (pc := 24) C 29 dX9_part_24 (by decide) ?_
    exact aw_ireturn (pc := 29) C hr rfl hz0 rfl dX9_part_29
  refine aw_iconst (pc := 4) (v := (-1)) C dX9_part_4 (by decide) ?_
  exact aw_ireturn (pc := 5) C hr rfl hz0 rfl dX9_part_5
