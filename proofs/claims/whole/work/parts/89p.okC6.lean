def rmX9_convergent : Room := { frames := 4, cells := 0, slots := 0, locals := 93 }
set_option maxHeartbeats 4000000 in
set_option maxRecDepth 100000 in
theorem okX9_convergent (E : Ev) (l : Launch) (a0 : Nat) (a1 : Int32) (a2 : Int32) (h0 : Mem) : AMet E l yX9_convergent cX9_convergent 4 (some (.long)) rmX9_convergent [rf E a0, .int a1, .int a2] h0 rvJ (fX9_convergent a0 a1 a2 h0) := by
  refine am_intro (plainFor_of_name (by decide +kernel)) (Nat.le_of_ble_eq_true rfl) (fun K hKl C hr hnm hz0 => ?_)
  replace C : CxOK K E RX9 cX9_convergent 4 := C
  have hE : E.1 + 1 ≤ (kS K).heap.size := by omega
  unfold fX9_convergent
  show Aw K E _ _ _ _ _ 0 [(0, rf E a0), (1, .int a1), (2, .int a2)] [] h0 _
  refine aw_iload_n (pc := 0) C dX9_convergent_0 rfl 1 rfl ?_
  refine aw_if_lt (pc := 1) C 13 dX9_convergent_1 (by decide) (fun c13 => ?_) (fun c13 => ?_)
  · refine aw_ldc2 (pc := 13) (v := (-9223372036854775808)) C kc_X9_163 dX9_convergent_13 ?_
    exact aw_lreturn (pc := 16) C hr hz0 rfl dX9_convergent_16
  refine aw_iload_n (pc := 4) C dX9_convergent_4 rfl 2 rfl ?_
  refine aw_iconst (pc := 5) (v := 0) C dX9_convergent_5 (by decide) ?_
  refine aw_iconst (pc := 6) (v := 1) C dX9_convergent_6 (by decide) ?_
  refine aw_callSI (pc := 7) (R := rmX9_convergent) (As := [.int a2, .int 0, .int 1]) (rest := []) (st := [.int 1, .int 0, .int a2]) (c' := 0) (s' := 0) C hE cal_X9_between ml_X9_67 rfl ⟨(Nat.le_of_ble_eq_true rfl), (Nat.le_of_ble_eq_true rfl)⟩ ⟨(Nat.le_of_ble_eq_true rfl), (Nat.le_of_ble_eq_true rfl)⟩ dX9_convergent_7 (okX9_between E (kL K) a2 0 1 h0) rfl (Nat.le_of_ble_eq_true rfl) rfl rfl (fun v2 h1 eh1 => ?_)
  refine aw_if_ne (pc := 10) C 17 dX9_convergent_10 (by decide) (fun c12 => ?_) (fun c12 => ?_)
  · refine aw_ldc2 (pc := 13) (v := (-9223372036854775808)) C kc_X9_163 dX9_convergent_13 ?_
    exact aw_lreturn (pc := 16) C hr hz0 rfl dX9_convergent_16
  refine aw_aload_n (pc := 17) C dX9_convergent_17 rfl 0 rfl ?_
  refine aw_callVR (pc := 18) (R := rmX9_convergent) (c := 9) (As := []) (rest := []) (st := [rf E a0]) (c' := 0) (s' := 0) C hE rfl (by decide) cal_X9_partsNow ml_X9_155 rfl ⟨(Nat.le_of_ble_eq_true rfl), (Nat.le_of_ble_eq_true rfl)⟩ ⟨(Nat.le_of_ble_eq_true rfl), (Nat.le_of_ble_eq_true rfl)⟩ dX9_convergent_18 (okX9_partsNow E (kL K) a0 h1) rfl (Nat.le_of_ble_eq_true rfl) rfl rfl (fun h3 eh3 => ?_) (fun v4 h3 ev4 nv4 => ?_)
  · refine aw_itt rfl ?_
    exact aw_none
  refine aw_itf nv4 ?_
  refine aw_astore_n (pc := 21) (L' := [(3, rf E v4), (0, rf E a0), (1, .int a1), (2, .int a2)]) C dX9_convergent_21 rfl (by decide) rfl ?_
  refine aw_iload_n (pc := 22) C dX9_convergent_22 rfl 2 rfl ?_
  refine aw_aload_n (pc := 23) C dX9_convergent_23 rfl 0 rfl ?_
  refine aw_getI (pc := 24) C fl_X9_159 dX9_convergent_24 (fun v5 ev5 => ?_)
  refine aw_icmp_lt (pc := 27) C 34 dX9_convergent_27 (by decide) (fun c11 => ?_) (fun c11 => ?_)
  · refine aw_iload_n (pc := 34) C dX9_convergent_34 rfl 3 rfl ?_
    refine aw_if_ne (pc := 35) C 46 dX9_convergent_35 (by decide) (fun c10 => ?_) (fun c10 => ?_)
    · refine aw_aload_n (pc := 38) C dX9_convergent_38 rfl 0 rfl ?_
      refine aw_iload_n (pc := 39) C dX9_convergent_39 rfl 2 rfl ?_
      refine aw_callVJ (pc := 40) (R := rmX9_convergent) (c := 3) (As := [.int a1]) (rest := []) (st := [.int a1, rf E v4]) (c' := 0) (s' := 0) C hE rfl (by decide) cal_X3_above ml_X9_206 rfl ⟨(Nat.le_of_ble_eq_true rfl), (Nat.le_of_ble_eq_true rfl)⟩ ⟨(Nat.le_of_ble_eq_true rfl), (Nat.le_of_ble_eq_true rfl)⟩ dX9_convergent_40 (okX3_above E (kL K) v4 a1 h3) rfl (Nat.le_of_ble_eq_true rfl) rfl rfl (fun v7 h6 eh6 => ?_)
      refine aw_goto (pc := 43) C 51 dX9_convergent_43 (by decide) ?_
      exact aw_lreturn (pc := 51) C hr hz0 rfl dX9_convergent_51
    refine aw_aload_n (pc := 46) C dX9_convergent_46 rfl 0 rfl ?_
    refine aw_iload_n (pc := 47) C dX9_convergent_47 rfl 2 rfl ?_
    refine aw_callVJ (pc := 48) (R := rmX9_convergent) (c := 3) (As := [.int a1]) (rest := []) (st := [.int a1, rf E v4]) (c' := 0) (s' := 0) C hE rfl (by decide) cal_X3_below ml_X9_210 rfl ⟨(Nat.le_of_ble_eq_true rfl), (Nat.le_of_ble_eq_true rfl)⟩ ⟨(Nat.le_of_ble_eq_true rfl), (Nat.le_of_ble_eq_true rfl)⟩ dX9_convergent_48 (okX3_below E (kL K) v4 a1 h3) rfl (Nat.le_of_ble_eq_true rfl) rfl rfl (fun v9 h8 eh8 => ?_)
    exact aw_lreturn (pc := 51) C hr hz0 rfl dX9_convergent_51
  refine aw_ldc2 (pc := 30) (v := (-9223372036854775808)) C kc_X9_163 dX9_convergent_30 ?_
  exact aw_lreturn (pc := 33) C hr hz0 rfl dX9_convergent_33
def rmX9_see : Room := { frames := 1, cells := 0, slots := 0, locals := 24 }
set_option maxHeartbeats 4000000 in
set_option maxRecDepth 100000 in
theorem okX9_see (E : Ev) (l : Launch) (a0 : Nat) (a1 : Int32) (a2 : Int32) (a3 : Int32) (h0 : Mem) : AMet E l yX9_see cX9_see 4 (some (.int)) rmX9_see [rf E a0, .int a1, .int a2, .int a3] h0 rvI (fX9_see a0 a1 a2 a3 h0) := by
  refine am_intro (plainFor_of_name (by decide +kernel)) (Nat.le_of_ble_eq_true rfl) (fun K hKl C hr hnm hz0 => ?_)
  replace C : CxOK K E RX9 cX9_see 4 := C
  have hE : E.1 + 1 ≤ (kS K).heap.size := by omega
  unfold fX9_see
  show Aw K E _ _ _ _ _ 0 [(0, rf E a0), (1, .int a1), (2, .int a2), (3, .int a3)] [] h0 _
  refine aw_iload_n (pc := 0) C dX9_see_0 rfl 1 rfl ?_
  refine aw_bipush (pc := 1) (v := (-100)) C dX9_see_1 (by decide) ?_
  refine aw_icmp_ne (pc := 3) C 17 dX9_see_3 (by decide) (fun c18 => ?_) (fun c18 => ?_)
  · refine aw_aload_n (pc := 6) C dX9_see_6 rfl 0 rfl ?_
    refine aw_getR (pc := 7) C fl_X9_12 dX9_see_7 (fun v1 ev1 => ?_)
    refine aw_getR (pc := 10) C fl_X9_213 dX9_see_10 (fun v2 ev2 => ?_)
    refine aw_callVI (pc := 13) (R := rmX9_see) (c := 4) (As := []) (rest := []) (st := [rf E v2]) (c' := 0) (s' := 0) C hE rfl (by decide) cal_X4_empty ml_X9_216 rfl ⟨(Nat.le_of_ble_eq_true rfl), (Nat.le_of_ble_eq_true rfl)⟩ ⟨(Nat.le_of_ble_eq_true rfl), (Nat.le_of_ble_eq_true rfl)⟩ dX9_see_13 (okX4_empty E (kL K) v2 h0) rfl (Nat.le_of_ble_eq_true rfl) rfl rfl (fun v4 h3 eh3 => ?_)
    exact aw_ireturn (pc := 16) C hr rfl hz0 rfl dX9_see_16
  refine aw_iload_n (pc := 17) C dX9_see_17 rfl 1 rfl ?_
  refine aw_bipush (pc := 18) (v := (-9)) C dX9_see_18 (by decide) ?_
  refine aw_bipush (pc := 20) (v := 9) C dX9_see_20 (by decide) ?_
  refine aw_callSI (pc := 22) (R := rmX9_see) (As := [.int a1, .int (-9), .int 9]) (rest := []) (st := [.int 9, .int (-9), .int a1]) (c' := 0) (s' := 0) C hE cal_X9_between ml_X9_67 rfl ⟨(Nat.le_of_ble_eq_true rfl), (Nat.le_of_ble_eq_true rfl)⟩ ⟨(Nat.le_of_ble_eq_true rfl), (Nat.le_of_ble_eq_true rfl)⟩ dX9_see_22 (okX9_between E (kL K) a1 (-9) 9 h0) rfl (Nat.le_of_ble_eq_true rfl) rfl rfl (fun v6 h5 eh5 => ?_)
  refine aw_if_ne (pc := 25) C 31 dX9_see_25 (by decide) (fun c17 => ?_) (fun c17 => ?_)
  · refine aw_bipush (pc := 28) (v := (-2)) C dX9_see_28 (by decide) ?_
    exact aw_ireturn (pc := 30) C hr rfl hz0 rfl dX9_see_30
  refine aw_iload_n (pc := 31) C dX9_see_31 rfl 2 rfl ?_
  refine aw_bipush (pc := 32) (v := (-9)) C dX9_see_32 (by decide) ?_
  refine aw_bipush (pc := 34) (v := 9) C dX9_see_34 (by decide) ?_
  refine aw_callSI (pc := 36) (R := rmX9_see) (As := [.int a2, .int (-9), .int 9]) (rest := []) (st := [.int 9, .int (-9), .int a2]) (c' := 0) (s' := 0) C hE cal_X9_between ml_X9_67 rfl ⟨(Nat.le_of_ble_eq_true rfl), (Nat.le_of_ble_eq_true rfl)⟩ ⟨(Nat.le_of_ble_eq_true rfl), (Nat.le_of_ble_eq_true rfl)⟩ dX9_see_36 (okX9_between E (kL K) a2 (-9) 9 h5) rfl (Nat.le_of_ble_eq_true rfl) rfl rfl (fun v8 h7 eh7 => ?_)
  refine aw_if_ne (pc := 39) C 45 dX9_see_39 (by decide) (fun c16 => ?_) (fun c16 => ?_)
  · refine aw_bipush (pc := 42) (v := (-2)) C dX9_see_42 (by decide) ?_
    exact aw_ireturn (pc := 44) C hr rfl hz0 rfl dX9_see_44
  refine aw_iload_n (pc := 45) C dX9_see_45 rfl 3 rfl ?_
  refine aw_sipush (pc := 46) (v := (-9999)) C dX9_see_46 (by decide) ?_
  refine aw_sipush (pc := 49) (v := 9999) C dX9_see_49 (by decide) ?_
  refine aw_callSI (pc := 52) (R := rmX9_see) (As := [.int a3, .int (-9999), .int 9999]) (rest := []) (st := [.int 9999, .int (-9999), .int a3]) (c' := 0) (s' := 0) C hE cal_X9_between ml_X9_67 rfl ⟨(Nat.le_of_ble_eq_true rfl), (Nat.le_of_ble_eq_true rfl)⟩ ⟨(Nat.le_of_ble_eq_true rfl), (Nat.le_of_ble_eq_true rfl)⟩ dX9_see_52 (okX9_between E (kL K) a3 (-9999) 9999 h7) rfl (Nat.le_of_ble_eq_true rfl) rfl rfl (fun v10 h9 eh9 => ?_)
  refine aw_if_ne (pc := 55) C 61 dX9_see_55 (by decide) (fun c15 => ?_) (fun c15 => ?_)
  · refine aw_bipush (pc := 58) (v := (-2)) C dX9_see_58 (by decide) ?_
    exact aw_ireturn (pc := 60) C hr rfl hz0 rfl dX9_see_60
  refine aw_aload_n (pc := 61) C dX9_see_61 rfl 0 rfl ?_
  refine aw_getR (pc := 62) C fl_X9_12 dX9_see_62 (fun v11 ev11 => ?_)
  refine aw_getR (pc := 65) C fl_X9_213 dX9_see_65 (fun v12 ev12 => ?_)
  refine aw_iload_n (pc := 68) C dX9_see_68 rfl 1 rfl ?_
  refine aw_iload_n (pc := 69) C dX9_see_69 rfl 2 rfl ?_
  refine aw_iload_n (pc := 70) C dX9_see_70 rfl 3 rfl ?_
  refine aw_callVI (pc := 71) (R := rmX9_see) (c := 4) (As := [.int a1, .int a2, .int a3]) (rest := []) (st := [.int a3, .int a2, .int a1, rf E v12]) (c' := 0) (s' := 0) C hE rfl (by decide) cal_X4_add ml_X9_219 rfl ⟨(Nat.le_of_ble_eq_true rfl), (Nat.le_of_ble_eq_true rfl)⟩ ⟨(Nat.le_of_ble_eq_true rfl), (Nat.le_of_ble_eq_true rfl)⟩ dX9_see_71 (okX4_add E (kL K) v12 a1 a2 a3 h9) rfl (Nat.le_of_ble_eq_true rfl) rfl rfl (fun v14 h13 eh13 => ?_)
  exact aw_ireturn (pc := 74) C hr rfl hz0 rfl dX9_see_74
def rmX9_isAsSeen : Room := { frames := 2, cells := 0, slots := 0, locals := 44 }
set_option maxHeartbeats 4000000 in
set_option maxRecDepth 100000 in
theorem okX9_isAsSeen (E : Ev) (l : Launch) (a0 : Nat) (a1 : Nat) (h0 : Mem) : AMet E l yX9_isAsSeen cX9_isAsSeen 3 (some (.boolean)) rmX9_isAsSeen [rf E a0, rf E a1] h0 rvI (fX9_isAsSeen a0 a1 h0) := by
  refine am_intro (plainFor_of_name (by decide +kernel)) (Nat.le_of_ble_eq_true rfl) (fun K hKl C hr hnm hz0 => ?_)
  replace C : CxOK K E RX9 cX9_isAsSeen 3 := C
  have hE : E.1 + 1 ≤ (kS K).heap.size := by omega
  unfold fX9_isAsSeen
  show Aw K E _ _ _ _ _ 0 [(0, rf E a0), (1, rf E a1)] [] h0 _
  refine aw_iconst (pc := 0) (v := 0) C dX9_isAsSeen_0 (by decide) ?_
  refine aw_istore_n (pc := 1) (L' := [(2, .int 0), (0, rf E a0), (1, rf E a1)]) C dX9_isAsSeen_1 rfl (by decide) rfl ?_
  refine aw_sub (L' := [(0, rf E a0), (1, rf E a1), (2, .int 0)]) [1, 2, 0] rfl ?_
  refine aw_loop (pc := 2) (σ := Int32 × Mem) (fun s => [(0, rf E a0), (1, rf E a1), (2, .int s.1)]) (fun s => s.2) _ (fun k3 ih4 s => ?_) _ _
  obtain ⟨v1, h2⟩ := s
  show Aw K E _ _ _ _ _ 2 [(0, rf E a0), (1, rf E a1), (2, .int v1)] [] h2 _
  refine aw_iload_n (pc := 2) C dX9_isAsSeen_2 rfl 2 rfl ?_
  refine aw_aload_n (pc := 3) C dX9_isAsSeen_3 rfl 0 rfl ?_
  refine aw_getR (pc := 4) C fl_X9_12 dX9_isAsSeen_4 (fun v5 ev5 => ?_)
  refine aw_getR (pc := 7) C fl_X9_213 dX9_isAsSeen_7 (fun v6 ev6 => ?_)
  refine aw_getI (pc := 10) C fl_X9_133 dX9_isAsSeen_10 (fun v7 ev7 => ?_)
  refine aw_icmp_ge (pc := 13) C 68 dX9_isAsSeen_13 (by decide) (fun c24 => ?_) (fun c24 => ?_)
  · refine aw_iconst (pc := 68) (v := 1) C dX9_isAsSeen_68 (by decide) ?_
    exact aw_ireturn (pc := 69) C hr rfl hz0 rfl dX9_isAsSeen_69
  refine aw_aload_n (pc := 16) C dX9_isAsSeen_16 rfl 1 rfl ?_
  refine aw_aload_n (pc := 17) C dX9_isAsSeen_17 rfl 0 rfl ?_
  refine aw_getR (pc := 18) C fl_X9_12 dX9_isAsSeen_18 (fun v8 ev8 => ?_)
  refine aw_getR (pc := 21) C fl_X9_213 dX9_isAsSeen_21 (fun v9 ev9 => ?_)
  refine aw_iload_n (pc := 24) C dX9_isAsSeen_24 rfl 2 rfl ?_
  refine aw_callVI (pc := 25) (R := rmX9_isAsSeen) (c := 4) (As := [.int v1]) (rest := [rf E a1]) (st := [.int v1, rf E v9, rf E a1]) (c' := 0) (s' := 0) C hE rfl (by decide) cal_X4_first ml_X9_259 rfl ⟨(Nat.le_of_ble_eq_true rfl), (Nat.le_of_ble_eq_true rfl)⟩ ⟨(Nat.le_of_ble_eq_true rfl), (Nat.le_of_ble_eq_true rfl)⟩ dX9_isAsSeen_25 (okX4_first E (kL K) v9 v1 h2) rfl (Nat.le_of_ble_eq_true rfl) rfl rfl (fun v11 h10 eh10 => ?_)
  refine aw_i2l (pc := 28) C dX9_isAsSeen_28 ?_
  refine aw_aload_n (pc := 29) C dX9_isAsSeen_29 rfl 0 rfl ?_
  refine aw_getR (pc := 30) C fl_X9_12 dX9_isAsSeen_30 (fun v12 ev12 => ?_)
  refine aw_getR (pc := 33) C fl_X9_213 dX9_isAsSeen_33 (fun v13 ev13 => ?_)
  refine aw_iload_n (pc := 36) C dX9_isAsSeen_36 rfl 2 rfl ?_
  refine aw_callVI (pc := 37) (R := rmX9_isAsSeen) (c := 4) (As := [.int v1]) (rest := [.long v11.toInt64, rf E a1]) (st := [.int v1, rf E v13, .long v11.toInt64, rf E a1]) (c' := 0) (s' := 0) C hE rfl (by decide) cal_X4_second ml_X9_262 rfl ⟨(Nat.le_of_ble_eq_true rfl), (Nat.le_of_ble_eq_true rfl)⟩ ⟨(Nat.le_of_ble_eq_true rfl), (Nat.le_of_ble_eq_true rfl)⟩ dX9_isAsSeen_37 (okX4_second E (kL K) v13 v1 h10) rfl (Nat.le_of_ble_eq_true rfl) rfl rfl (fun v15 h14 eh14 => ?_)
  refine aw_i2l (pc := 40) C dX9_isAsSeen_40 ?_
  refine aw_callVJ (pc := 41) (R := rmX9_isAsSeen) (c := 2) (As := [.long v11.toInt64, .long v15.toInt64]) (rest := []) (st := [.long v15.toInt64, .long v11.toInt64, rf E a1]) (c' := 0) (s' := 0) C hE rfl (by decide) cal_X2_at ml_X9_165 rfl ⟨(Nat.le_of_ble_eq_true rfl), (Nat.le_of_ble_eq_true rfl)⟩ ⟨(Nat.le_of_ble_eq_true rfl), (Nat.le_of_ble_eq_true rfl)⟩ dX9_isAsSeen_41 (okX2_at E (kL K) a1 v11.toInt64 v15.toInt64 h14) rfl (Nat.le_of_ble_eq_true rfl) rfl rfl (fun v17 h16 eh16 => ?_)
  refine aw_aload_n (pc := 44) C dX9_isAsSeen_44 rfl 0 rfl ?_
  refine aw_getR (pc := 45) C fl_X9_12 dX9_isAsSeen_45 (fun v18 ev18 => ?_)
  refine aw_getR (pc := 48) C fl_X9_213 dX9_isAsSeen_48 (fun v19 ev19 => ?_)
  refine aw_iload_n (pc := 51) C dX9_isAsSeen_51 rfl 2 rfl ?_
  refine aw_callVI (pc := 52) (R := rmX9_isAsSeen) (c := 4) (As := [.int v1]) (rest := [.long v17]) (st := [.int v1, rf E v19, .long v17]) (c' := 0) (s' := 0) C hE rfl (by decide) cal_X4_third ml_X9_323 rfl ⟨(Nat.le_of_ble_eq_true rfl), (Nat.le_of_ble_eq_true rfl)⟩ ⟨(Nat.le_of_ble_eq_true rfl), (Nat.le_of_ble_eq_true rfl)⟩ dX9_isAsSeen_52 (okX4_third E (kL K) v19 v1 h16) rfl (Nat.le_of_ble_eq_true rfl) rfl rfl (fun v21 h20 eh20 => ?_)
  refine aw_i2l (pc := 55) C dX9_isAsSeen_55 ?_
  refine aw_lcmp (pc := 56) C dX9_isAsSeen_56 ?_
  refine aw_if_eq (pc := 57) C 62 dX9_isAsSeen_57 (by decide) (fun c23 => ?_) (fun c23 => ?_)
  · refine aw_iincN (pc := 62) (L1 := [(0, rf E a0), (1, rf E a1)]) (k := 1) C dX9_isAsSeen_62 2 rfl (by decide) (by decide) rfl (fun v22 ev22 => ?_)
    refine aw_goto (pc := 65) C 2 dX9_isAsSeen_65 (by decide) ?_
    exact aw_sub (L' := [(0, rf E a0), (1, rf E a1), (2, .int v22)]) [1, 2, 0] rfl (ih4 (v22, h20))
  refine aw_iconst (pc := 60) (v := 0) C dX9_isAsSeen_60 (by decide) ?_
  exact aw_ireturn (pc := 61) C hr rfl hz0 rfl dX9_isAsSeen_61
def rmX9_fits : Room := { frames := 3, cells := 0, slots := 0, locals := 101 }
set_option maxHeartbeats 4000000 in
set_option maxRecDepth 100000 in
theorem okX9_fits (E : Ev) (l : Launch) (a0 : Nat) (a1 : Int32) (a2 : Int32) (h0 : Mem) : AMet E l yX9_fits cX9_fits 7 (some (.int)) rmX9_fits [rf E a0, .int a1, .int a2] h0 rvI (fX9_fits a0 a1 a2 h0) := by
  refine am_intro (plainFor_of_name (by decide +kernel)) (Nat.le_of_ble_eq_true rfl) (fun K hKl C hr hnm hz0 => ?_)
  replace C : CxOK K E RX9 cX9_fits 7 := C
  have hE : E.1 + 1 ≤ (kS K).heap.size := by omega
  unfold fX9_fits
  show Aw K E _ _ _ _ _ 0 [(0, rf E a0), (1, .int a1), (2, .int a2)] [] h0 _
  refine aw_aload_n (pc := 0) C dX9_fits_0 rfl 0 rfl ?_
  refine aw_getR (pc := 1) C fl_X9_12 dX9_fits_1 (fun v1 ev1 => ?_)
  refine aw_getR (pc := 4) C fl_X9_71 dX9_fits_4 (fun v2 ev2 => ?_)
  refine aw_getR (pc := 7) C fl_X9_74 dX9_fits_7 (fun v3 ev3 => ?_)
  refine aw_iload_n (pc := 10) C dX9_fits_10 rfl 1 rfl ?_
  refine aw_callVI (pc := 11) (R := rmX9_fits) (c := 2) (As := [.int a1]) (rest := []) (st := [.int a1, rf E v3]) (c' := 0) (s' := 0) C hE rfl (by decide) cal_X2_has ml_X9_88 rfl ⟨(Nat.le_of_ble_eq_true rfl), (Nat.le_of_ble_eq_true rfl)⟩ ⟨(Nat.le_of_ble_eq_true rfl), (Nat.le_of_ble_eq_true rfl)⟩ dX9_fits_11 (okX2_has E (kL K) v3 a1 h0) rfl (Nat.le_of_ble_eq_true rfl) rfl rfl (fun v5 h4 eh4 => ?_)
  refine aw_if_eq (pc := 14) C 26 dX9_fits_14 (by decide) (fun c31 => ?_) (fun c31 => ?_)
  · refine aw_iconst (pc := 26) (v := (-1)) C dX9_fits_26 (by decide) ?_
    exact aw_ireturn (pc := 27) C hr rfl hz0 rfl dX9_fits_27
  refine aw_iload_n (pc := 17) C dX9_fits_17 rfl 2 rfl ?_
  refine aw_iconst (pc := 18) (v := 0) C dX9_fits_18 (by decide) ?_
  refine aw_iconst (pc := 19) (v := 1) C dX9_fits_19 (by decide) ?_
  refine aw_callSI (pc := 20) (R := rmX9_fits) (As := [.int a2, .int 0, .int 1]) (rest := []) (st := [.int 1, .int 0, .int a2]) (c' := 0) (s' := 0) C hE cal_X9_between ml_X9_67 rfl ⟨(Nat.le_of_ble_eq_true rfl), (Nat.le_of_ble_eq_true rfl)⟩ ⟨(Nat.le_of_ble_eq_true rfl), (Nat.le_of_ble_eq_true rfl)⟩ dX9_fits_20 (okX9_between E (kL K) a2 0 1 h4) rfl (Nat.le_of_ble_eq_true rfl) rfl rfl (fun v7 h6 eh6 => ?_)
  refine aw_if_ne (pc := 23) C 28 dX9_fits_23 (by decide) (fun c30 => ?_) (fun c30 => ?_)
  · refine aw_iconst (pc := 26) (v := (-1)) C dX9_fits_26 (by decide) ?_
    exact aw_ireturn (pc := 27) C hr rfl hz0 rfl dX9_fits_27
  refine aw_aload_n (pc := 28) C dX9_fits_28 rfl 0 rfl ?_
  refine aw_getR (pc := 29) C fl_X9_28 dX9_fits_29 (fun v8 ev8 => ?_)
  refine aw_getR (pc := 32) C fl_X9_74 dX9_fits_32 (fun v9 ev9 => ?_)
  refine aw_astore_n (pc := 35) (L' := [(3, rf E v9), (0, rf E a0), (1, .int a1), (2, .int a2)]) C dX9_fits_35 rfl (by decide) rfl ?_
  refine aw_aload_n (pc := 36) C dX9_fits_36 rfl 0 rfl ?_
  refine aw_aload_n (pc := 37) C dX9_fits_37 rfl 1 rfl ?_
  refine aw_getR (pc := 38) C fl_X9_12 dX9_fits_38 (fun v10 ev10 => ?_)
  refine aw_getR (pc := 41) C fl_X9_71 dX9_fits_41 (fun v11 ev11 => ?_)
  refine aw_getR (pc := 44) C fl_X9_74 dX9_fits_44 (fun v12 ev12 => ?_)
  refine aw_callVV (pc := 47) (R := rmX9_fits) (c := 2) (As := [rf E v12]) (rest := []) (st := [rf E v12, rf E v9]) (c' := 0) (s' := 0) C hE rfl (by decide) cal_X2_copy ml_X9_222 rfl ⟨(Nat.le_of_ble_eq_true rfl), (Nat.le_of_ble_eq_true rfl)⟩ ⟨(Nat.le_of_ble_eq_true rfl), (Nat.le_of_ble_eq_true rfl)⟩ dX9_fits_47 (okX2_copy E (kL K) v9 v12 h6) rfl (Nat.le_of_ble_eq_true rfl) rfl rfl (fun _u h13 eh13 => ?_)
  refine aw_iconst (pc := 50) (v := 0) C dX9_fits_50 (by decide) ?_
  refine aw_istore (pc := 51) (L' := [(4, .int 0), (3, rf E v9), (0, rf E a0), (1, .int a1), (2, .int a2)]) C dX9_fits_51 (by decide) rfl ?_
  refine aw_iconst (pc := 53) (v := 0) C dX9_fits_53 (by decide) ?_
  refine aw_istore (pc := 54) (L' := [(5, .int 0), (4, .int 0), (3, rf E v9), (0, rf E a0), (1, .int a1), (2, .int a2)]) C dX9_fits_54 (by decide) rfl ?_
  refine aw_bipush (pc := 56) (v := 99) C dX9_fits_56 (by decide) ?_
  refine aw_istore (pc := 58) (L' := [(6, .int 99), (5, .int 0), (4, .int 0), (3, rf E v9), (0, rf E a0), (1, .int a1), (2, .int a2)]) C dX9_fits_58 (by decide) rfl ?_
  refine aw_sub (L' := [(0, rf E a0), (1, .int a1), (2, .int a2), (3, rf E v9), (4, .int 0), (5, .int 0), (6, .int 99)]) [4, 5, 6, 3, 2, 1, 0] rfl ?_
  refine aw_loop (pc := 60) (σ := Int32 × Int32 × Int32 × Mem) (fun s => [(0, rf E a0), (1, .int a1), (2, .int a2), (3, rf E v9), (4, .int s.1), (5, .int s.2.1), (6, .int s.2.2.1)]) (fun s => s.2.2.2) _ (fun k18 ih19 s => ?_) _ _
  obtain ⟨v14, v15, v16, h17⟩ := s
  show Aw K E _ _ _ _ _ 60 [(0, rf E a0), (1, .int a1), (2, .int a2), (3, rf E v9), (4, .int v14), (5, .int v15), (6, .int v16)] [] h17 _
  refine aw_iload (pc := 60) C dX9_fits_60 6 rfl ?_
  refine aw_bipush (pc := 62) (v := (-99)) C dX9_fits_62 (by decide) ?_
  refine aw_icmp_lt (pc := 64) C 98 dX9_fits_64 (by decide) (fun c29 => ?_) (fun c29 => ?_)
  · refine aw_iload_n (pc := 98) C dX9_fits_98 rfl 2 rfl ?_
    refine aw_if_ne (pc := 99) C 107 dX9_fits_99 (by decide) (fun c28 => ?_) (fun c28 => ?_)
    · refine aw_iload (pc := 102) C dX9_fits_102 4 rfl ?_
      refine aw_goto (pc := 104) C 109 dX9_fits_104 (by decide) ?_
      exact aw_ireturn (pc := 109) C hr rfl hz0 rfl dX9_fits_109
    refine aw_iload (pc := 107) C dX9_fits_107 5 rfl ?_
    exact aw_ireturn (pc := 109) C hr rfl hz0 rfl dX9_fits_109
  refine aw_aload_n (pc := 67) C dX9_fits_67 rfl 3 rfl ?_
  refine aw_iload_n (pc := 68) C dX9_fits_68 rfl 1 rfl ?_
  refine aw_iload (pc := 69) C dX9_fits_69 6 rfl ?_
  refine aw_callVV (pc := 71) (R := rmX9_fits) (c := 2) (As := [.int a1, .int v16]) (rest := []) (st := [.int v16, .int a1, rf E v9]) (c' := 0) (s' := 0) C hE rfl (by decide) cal_X2_set ml_X9_96 rfl ⟨(Nat.le_of_ble_eq_true rfl), (Nat.le_of_ble_eq_true rfl)⟩ ⟨(Nat.le_of_ble_eq_true rfl), (Nat.le_of_ble_eq_true rfl)⟩ dX9_fits_71 (okX2_set E (kL K) v9 a1 v16 h17) rfl (Nat.le_of_ble_eq_true rfl) rfl rfl (fun _u h20 eh20 => ?_)
  refine aw_aload_n (pc := 74) C dX9_fits_74 rfl 0 rfl ?_
  refine aw_aload_n (pc := 75) C dX9_fits_75 rfl 3 rfl ?_
  refine aw_callVI (pc := 76) (R := rmX9_fits) (c := 9) (As := [rf E v9]) (rest := []) (st := [rf E v9, rf E a0]) (c' := 0) (s' := 0) C hE rfl (by decide) cal_X9_isAsSeen ml_X9_226 rfl ⟨(Nat.le_of_ble_eq_true rfl), (Nat.le_of_ble_eq_true rfl)⟩ ⟨(Nat.le_of_ble_eq_true rfl), (Nat.le_of_ble_eq_true rfl)⟩ dX9_fits_76 (okX9_isAsSeen E (kL K) a0 v9 h20) rfl (Nat.le_of_ble_eq_true rfl) rfl rfl (fun v22 h21 eh21 => ?_)
  refine aw_if_eq (pc := 79) C 92 dX9_fits_79 (by decide) (fun c27 => ?_) (fun c27 => ?_)
  · refine aw_iincN (pc := 92) (L1 := [(0, rf E a0), (1, .int a1), (2, .int a2), (3, rf E v9), (4, .int v14), (5, .int v15)]) (k := (-1)) C dX9_fits_92 6 rfl (by decide) (by decide) rfl (fun v26 ev26 => ?_)
    refine aw_goto (pc := 95) C 60 dX9_fits_95 (by decide) ?_
    exact aw_sub (L' := [(0, rf E a0), (1, .int a1), (2, .int a2), (3, rf E v9), (4, .int v14), (5, .int v15), (6, .int v26)]) [1, 2, 3, 4, 5, 6, 0] rfl (ih19 (v14, v15, v26, h21))
  refine aw_iincN (pc := 82) (L1 := [(0, rf E a0), (1, .int a1), (2, .int a2), (3, rf E v9), (5, .int v15), (6, .int v16)]) (k := 1) C dX9_fits_82 4 rfl (by decide) (by decide) rfl (fun v23 ev23 => ?_)
  refine aw_iload (pc := 85) C dX9_fits_85 6 rfl ?_
  refine aw_bipush (pc := 87) (v := 100) C dX9_fits_87 (by decide) ?_
  refine aw_iadd (pc := 89) C dX9_fits_89 ?_
  refine aw_nmI (pc := 90) (fun v24 ev24 => ?_)
  refine aw_istore (pc := 90) (L' := [(5, .int v24), (4, .int v23), (0, rf E a0), (1, .int a1), (2, .int a2), (3, rf E v9), (6, .int v16)]) C dX9_fits_90 (by decide) rfl ?_
  refine aw_iincN (pc := 92) (L1 := [(5, .int v24), (4, .int v23), (0, rf E a0), (1, .int a1), (2, .int a2), (3, rf E v9)]) (k := (-1)) C dX9_fits_92 6 rfl (by decide) (by decide) rfl (fun v25 ev25 => ?_)
  refine aw_goto (pc := 95) C 60 dX9_fits_95 (by decide) ?_
  exact aw_sub (L' := [(0, rf E a0), (1, .int a1), (2, .int a2), (3, rf E v9), (4, .int v23), (5, .int v24), (6, .int v25)]) [3, 4, 5, 6, 2, 1, 0] rfl (ih19 (v23, v24, v25, h21))
def rmX1_valuesAboveM : Room := { frames := 1, cells := 0, slots := 0, locals := 29 }
set_option maxHeartbeats 4000000 in
set_option maxRecDepth 100000 in
theorem okX1_valuesAboveM (E : Ev) (l : Launch) (a0 : Nat) (h0 : Mem) : AMet E l yX1_valuesAboveM cX1_valuesAboveM 5 (some (.long)) rmX1_valuesAboveM [rf E a0] h0 rvJ (fX1_valuesAboveM a0 h0) := by
  refine am_intro (plainFor_of_name (by decide +kernel)) (Nat.le_of_ble_eq_true rfl) (fun K hKl C hr hnm hz0 => ?_)
  replace C : CxOK K E RX1 cX1_valuesAboveM 5 := C
  have hE : E.1 + 1 ≤ (kS K).heap.size := by omega
  unfold fX1_valuesAboveM
  show Aw K E _ _ _ _ _ 0 [(0, rf E a0)] [] h0 _
  refine aw_lconst (pc := 0) (v := 0) C dX1_valuesAboveM_0 (by decide) ?_
  refine aw_lstore_n (pc := 1) (L' := [(1, .long 0), (0, rf E a0)]) C dX1_valuesAboveM_1 rfl (by decide) rfl ?_
  refine aw_aload_n (pc := 2) C dX1_valuesAboveM_2 rfl 1 rfl ?_
  refine aw_getI (pc := 3) C fl_X1_22 dX1_valuesAboveM_3 (fun v1 ev1 => ?_)
  refine aw_ineg (pc := 6) C dX1_valuesAboveM_6 ?_
  refine aw_nmI (pc := 7) (fun v2 ev2 => ?_)
  refine aw_istore_n (pc := 7) (L' := [(3, .int v2), (1, .long 0), (0, rf E a0)]) C dX1_valuesAboveM_7 rfl (by decide) rfl ?_
  refine aw_sub (L' := [(0, rf E a0), (1, .long 0), (3, .int v2)]) [2, 1, 0] rfl ?_
  refine aw_loop (pc := 8) (σ := Int64 × Int32 × Mem) (fun s => [(0, rf E a0), (1, .long s.1), (3, .int s.2.1)]) (fun s => s.2.2) _ (fun k6 ih7 s => ?_) _ _
  obtain ⟨v3, v4, h5⟩ := s
  show Aw K E _ _ _ _ _ 8 [(0, rf E a0), (1, .long v3), (3, .int v4)] [] h5 _
  refine aw_iload_n (pc := 8) C dX1_valuesAboveM_8 rfl 2 rfl ?_
  refine aw_aload_n (pc := 9) C dX1_valuesAboveM_9 rfl 0 rfl ?_
  refine aw_getI (pc := 10) C fl_X1_22 dX1_valuesAboveM_10 (fun v8 ev8 => ?_)
  refine aw_icmp_gt (pc := 13) C 69 dX1_valuesAboveM_13 (by decide) (fun c27 => ?_) (fun c27 => ?_)
  · refine aw_lload_n (pc := 69) C dX1_valuesAboveM_69 rfl 1 rfl ?_
    exact aw_lreturn (pc := 70) C hr hz0 rfl dX1_valuesAboveM_70
  refine aw_aload_n (pc := 16) C dX1_valuesAboveM_16 rfl 0 rfl ?_
  refine aw_getI (pc := 17) C fl_X1_22 dX1_valuesAboveM_17 (fun v9 ev9 => ?_)
  refine aw_ineg (pc := 20) C dX1_valuesAboveM_20 ?_
  refine aw_nmI (pc := 21) (fun v10 ev10 => ?_)
  refine aw_istore (pc := 21) (L' := [(4, .int v10), (0, rf E a0), (1, .long v3), (3, .int v4)]) C dX1_valuesAboveM_21 (by decide) rfl ?_
  refine aw_sub (L' := [(0, rf E a0), (1, .long v3), (3, .int v4), (4, .int v10)]) [1, 2, 3, 0] rfl ?_
  refine aw_loop (pc := 23) (σ := Int64 × Int32 × Mem) (fun s => [(0, rf E a0), (1, .long s.1), (3, .int v4), (4, .int s.2.1)]) (fun s => s.2.2) _ (fun k14 ih15 s => ?_) _ _
  obtain ⟨v11, v12, h13⟩ := s
  show Aw K E _ _ _ _ _ 23 [(0, rf E a0), (1, .long v11), (3, .int v4), (4, .int v12)] [] h13 _
  refine aw_iload (pc := 23) C dX1_valuesAboveM_23 3 rfl ?_
  refine aw_aload_n (pc := 25) C dX1_valuesAboveM_25 rfl 0 rfl ?_
  refine aw_getI (pc := 26) C fl_X1_22 dX1_valuesAboveM_26 (fun v16 ev16 => ?_)
  refine aw_icmp_gt (pc := 29) C 63 dX1_valuesAboveM_29 (by decide) (fun c26 => ?_) (fun c26 => ?_)
  · refine aw_iincN (pc := 63) (L1 := [(0, rf E a0), (1, .long v11), (4, .int v12)]) (k := 1) C dX1_valuesAboveM_63 2 rfl (by decide) (by decide) rfl (fun v25 ev25 => ?_)
    refine aw_goto (pc := 66) C 8 dX1_valuesAboveM_66 (by decide) ?_
    exact aw_sub (L' := [(0, rf E a0), (1, .long v11), (3, .int v25)]) [1, 2, 0] rfl (ih7 (v11, v25, h13))
  refine aw_aload_n (pc := 32) C dX1_valuesAboveM_32 rfl 0 rfl ?_
  refine aw_getR (pc := 33) C fl_X1_12 dX1_valuesAboveM_33 (fun v17 ev17 => ?_)
  refine aw_iload_n (pc := 36) C dX1_valuesAboveM_36 rfl 2 rfl ?_
  refine aw_i2l (pc := 37) C dX1_valuesAboveM_37 ?_
  refine aw_iload (pc := 38) C dX1_valuesAboveM_38 3 rfl ?_
  refine aw_i2l (pc := 40) C dX1_valuesAboveM_40 ?_
  refine aw_callVJ (pc := 41) (R := rmX1_valuesAboveM) (c := 2) (As := [.long v4.toInt64, .long v12.toInt64]) (rest := []) (st := [.long v12.toInt64, .long v4.toInt64, rf E v17]) (c' := 0) (s' := 0) C hE rfl (by decide) cal_X2_at ml_X1_37 rfl ⟨(Nat.le_of_ble_eq_true rfl), (Nat.le_of_ble_eq_true rfl)⟩ ⟨(Nat.le_of_ble_eq_true rfl), (Nat.le_of_ble_eq_true rfl)⟩ dX1_valuesAboveM_41 (okX2_at E (kL K) v17 v4.toInt64 v12.toInt64 h13) rfl (Nat.le_of_ble_eq_true rfl) rfl rfl (fun v19 h18 eh18 => ?_)
  refine aw_aload_n (pc := 44) C dX1_valuesAboveM_44 rfl 0 rfl ?_
  refine aw_getI (pc := 45) C fl_X1_18 dX1_valuesAboveM_45 (fun v20 ev20 => ?_)
  refine aw_i2l (pc := 48) C dX1_valuesAboveM_48 ?_
  refine aw_lcmp (pc := 49) C dX1_valuesAboveM_49 ?_
  refine aw_if_le (pc := 50) C 57 dX1_valuesAboveM_50 (by decide) (fun c24 => ?_) (fun c24 => ?_)
  · refine aw_iincN (pc := 57) (L1 := [(0, rf E a0), (1, .long v11), (3, .int v4)]) (k := 1) C dX1_valuesAboveM_57 3 rfl (by decide) (by decide) rfl (fun v23 ev23 => ?_)
    refine aw_goto (pc := 60) C 23 dX1_valuesAboveM_60 (by decide) ?_
    exact aw_sub (L' := [(0, rf E a0), (1, .long v11), (3, .int v4), (4, .int v23)]) [1, 2, 3, 0] rfl (ih15 (v11, v23, h18))
  refine aw_lload_n (pc := 53) C dX1_valuesAboveM_53 rfl 1 rfl ?_
  refine aw_lconst (pc := 54) (v := 1) C dX1_valuesAboveM_54 (by decide) ?_
  refine aw_ladd (pc := 55) C dX1_valuesAboveM_55 ?_
  refine aw_nmJ (pc := 56) (fun v21 ev21 => ?_)
  refine aw_lstore_n (pc := 56) (L' := [(1, .long v21), (0, rf E a0), (3, .int v4), (4, .int v12)]) C dX1_valuesAboveM_56 rfl (by decide) rfl ?_
  refine aw_iincN (pc := 57) (L1 := [(1, .long v21), (0, rf E a0), (3, .int v4)]) (k := 1) C dX1_valuesAboveM_57 3 rfl (by decide) (by decide) rfl (fun v22 ev22 => ?_)
  refine aw_goto (pc := 60) C 23 dX1_valuesAboveM_60 (by decide) ?_
  exact aw_sub (L' := [(0, rf E a0), (1, .long v21), (3, .int v4), (4, .int v22)]) [2, 1, 3, 0] rfl (ih15 (v21, v22, h18))
def rmX1_twos : Room := { frames := 0, cells := 0, slots := 0, locals := 0 }
set_option maxHeartbeats 4000000 in
set_option maxRecDepth 100000 in
theorem okX1_twos (E : Ev) (l : Launch) (a0 : Nat) (h0 : Mem) : AMet E l yX1_twos cX1_twos 3 (some (.long)) rmX1_twos [rf E a0] h0 rvJ (fX1_twos a0 h0) := by
  refine am_intro (plainFor_of_name (by decide +kernel)) (Nat.le_of_ble_eq_true rfl) (fun K hKl C hr hnm hz0 => ?_)
  replace C : CxOK K E RX1 cX1_twos 3 := C
  have hE : E.1 + 1 ≤ (kS K).heap.size := by omega
  unfold fX1_twos
  show Aw K E _ _ _ _ _ 0 [(0, rf E a0)] [] h0 _
  refine aw_ldc2 (pc := 0) (v := 2) C kc_X1_41 dX1_twos_0 ?_
  refine aw_aload_n (pc := 3) C dX1_twos_3 rfl 0 rfl ?_
  refine aw_getI (pc := 4) C fl_X1_22 dX1_twos_4 (fun v1 ev1 => ?_)
  refine aw_i2l (pc := 7) C dX1_twos_7 ?_
  refine aw_lmul (pc := 8) C dX1_twos_8 ?_
  refine aw_lconst (pc := 9) (v := 1) C dX1_twos_9 (by decide) ?_
  refine aw_ladd (pc := 10) C dX1_twos_10 ?_
  refine aw_nmJ (pc := 11) (fun v2 ev2 => ?_)
  refine aw_lstore_n (pc := 11) (L' := [(1, .long v2), (0, rf E a0)]) C dX1_twos_11 rfl (by decide) rfl ?_
  refine aw_lload_n (pc := 12) C dX1_twos_12 rfl 0 rfl ?_
  refine aw_lload_n (pc := 13) C dX1_twos_13 rfl 0 rfl ?_
  refine aw_lmul (pc := 14) C dX1_twos_14 ?_
  exact aw_lreturn (pc := 15) C hr hz0 rfl dX1_twos_15
def rmJ9_abs_067f4 : Room := { frames := 0, cells := 0, slots := 0, locals := 0 }
set_option maxHeartbeats 4000000 in
set_option maxRecDepth 100000 in
theorem okJ9_abs_067f4 (E : Ev) (l : Launch) (a0 : Int64) (h0 : Mem) : AMet E l yJ9_abs_067f4 cJ9_abs_067f4 2 (some (.long)) rmJ9_abs_067f4 [.long a0] h0 rvJ (fJ9_abs_067f4 a0 h0) := by
  refine am_intro (mathPlain rfl rfl) (Nat.le_of_ble_eq_true rfl) (fun K hKl C hr hnm hz0 => ?_)
  replace C : CxOK K E RJ9 cJ9_abs_067f4 2 := C
  have hE : E.1 + 1 ≤ (kS K).heap.size := by omega
  unfold fJ9_abs_067f4
  show Aw K E _ _ _ _ _ 0 [(0, .long a0)] [] h0 _
  refine aw_lload_n (pc := 0) C dJ9_abs_067f4_0 rfl 0 rfl ?_
  refine aw_lconst (pc := 1) (v := 0) C dJ9_abs_067f4_1 (by decide) ?_
  refine aw_lcmp (pc := 2) C dJ9_abs_067f4_2 ?_
  refine aw_if_ge (pc := 3) C 11 dJ9_abs_067f4_3 (by decide) (fun c1 => ?_) (fun c1 => ?_)
  · refine aw_lload_n (pc := 11) C dJ9_abs_067f4_11 rfl 0 rfl ?_
    exact aw_lreturn (pc := 12) C hr hz0 rfl dJ9_abs_067f4_12
  refine aw_lload_n (pc := 6) C dJ9_abs_067f4_6 rfl 0 rfl ?_
  refine aw_lneg (pc := 7) C dJ9_abs_067f4_7 ?_
  refine aw_goto (pc := 8) C 12 dJ9_abs_067f4_8 (by decide) ?_
  exact aw_lreturn (pc := 12) C hr hz0 rfl dJ9_abs_067f4_12
def rmX9_commonDivisor : Room := { frames := 0, cells := 0, slots := 0, locals := 0 }
set_option maxHeartbeats 4000000 in
set_option maxRecDepth 100000 in
theorem okX9_commonDivisor (E : Ev) (l : Launch) (a0 : Int64) (a2 : Int64) (h0 : Mem) : AMet E l yX9_commonDivisor cX9_commonDivisor 11 (some (.long)) rmX9_commonDivisor [.long a0, .long a2] h0 rvJ (fX9_commonDivisor a0 a2 h0) := by
  refine am_intro (plainFor_of_name (by decide +kernel)) (Nat.le_of_ble_eq_true rfl) (fun K hKl C hr hnm hz0 => ?_)
  replace C : CxOK K E RX9 cX9_commonDivisor 11 := C
  have hE : E.1 + 1 ≤ (kS K).heap.size := by omega
  unfold fX9_commonDivisor
  show Aw K E _ _ _ _ _ 0 [(0, .long a0), (2, .long a2)] [] h0 _
  refine aw_lload_n (pc := 0) C dX9_commonDivisor_0 rfl 0 rfl ?_
  refine aw_lstore (pc := 1) (L' := [(4, .long a0), (0, .long a0), (2, .long a2)]) C dX9_commonDivisor_1 (by decide) rfl ?_
  refine aw_lload_n (pc := 3) C dX9_commonDivisor_3 rfl 2 rfl ?_
  refine aw_lstore (pc := 4) (L' := [(6, .long a2), (4, .long a0), (0, .long a0), (2, .long a2)]) C dX9_commonDivisor_4 (by decide) rfl ?_
  refine aw_iconst (pc := 6) (v := 0) C dX9_commonDivisor_6 (by decide) ?_
  refine aw_istore (pc := 7) (L' := [(8, .int 0), (6, .long a2), (4, .long a0), (0, .long a0), (2, .long a2)]) C dX9_commonDivisor_7 (by decide) rfl ?_
  refine aw_sub (L' := [(4, .long a0), (6, .long a2), (8, .int 0)]) [2, 1, 0] rfl ?_
  refine aw_loop (pc := 9) (σ := Int64 × Int64 × Int32) (fun s => [(4, .long s.1), (6, .long s.2.1), (8, .int s.2.2)]) (fun s => h0) _ (fun k4 ih5 s => ?_) _ _
  obtain ⟨v1, v2, v3⟩ := s
  show Aw K E _ _ _ _ _ 9 [(4, .long v1), (6, .long v2), (8, .int v3)] [] h0 _
  refine aw_iload (pc := 9) C dX9_commonDivisor_9 2 rfl ?_
  refine aw_sipush (pc := 11) (v := 128) C dX9_commonDivisor_11 (by decide) ?_
  refine aw_icmp_ge (pc := 14) C 45 dX9_commonDivisor_14 (by decide) (fun c9 => ?_) (fun c9 => ?_)
  · refine aw_lload (pc := 45) C dX9_commonDivisor_45 0 rfl ?_
    exact aw_lreturn (pc := 47) C hr hz0 rfl dX9_commonDivisor_47
  refine aw_lload (pc := 17) C dX9_commonDivisor_17 1 rfl ?_
  refine aw_lconst (pc := 19) (v := 0) C dX9_commonDivisor_19 (by decide) ?_
  refine aw_lcmp (pc := 20) C dX9_commonDivisor_20 ?_
  refine aw_if_eq (pc := 21) C 45 dX9_commonDivisor_21 (by decide) (fun c8 => ?_) (fun c8 => ?_)
  · refine aw_lload (pc := 45) C dX9_commonDivisor_45 0 rfl ?_
    exact aw_lreturn (pc := 47) C hr hz0 rfl dX9_commonDivisor_47
  refine aw_lload (pc := 24) C dX9_commonDivisor_24 0 rfl ?_
  refine aw_lload (pc := 26) C dX9_commonDivisor_26 1 rfl ?_
  refine aw_lrem (pc := 28) C dX9_commonDivisor_28 (fun z28 => ?_)
  refine aw_nmJ (pc := 29) (fun v6 ev6 => ?_)
  refine aw_lstore (pc := 29) (L' := [(9, .long v6), (4, .long v1), (6, .long v2), (8, .int v3)]) C dX9_commonDivisor_29 (by decide) rfl ?_
  refine aw_lload (pc := 31) C dX9_commonDivisor_31 2 rfl ?_
  refine aw_lstore (pc := 33) (L' := [(4, .long v2), (9, .long v6), (6, .long v2), (8, .int v3)]) C dX9_commonDivisor_33 (by decide) rfl ?_
  refine aw_lload (pc := 35) C dX9_commonDivisor_35 1 rfl ?_
  refine aw_lstore (pc := 37) (L' := [(6, .long v6), (4, .long v2), (9, .long v6), (8, .int v3)]) C dX9_commonDivisor_37 (by decide) rfl ?_
  refine aw_iincN (pc := 39) (L1 := [(6, .long v6), (4, .long v2), (9, .long v6)]) (k := 1) C dX9_commonDivisor_39 3 rfl (by decide) (by decide) rfl (fun v7 ev7 => ?_)
  refine aw_goto (pc := 42) C 9 dX9_commonDivisor_42 (by decide) ?_
  exact aw_sub (L' := [(4, .long v2), (6, .long v6), (8, .int v7)]) [2, 1, 0] rfl (ih5 (v2, v6, v7))
def rmX9_lowest : Room := { frames := 1, cells := 0, slots := 0, locals := 30 }
set_option maxHeartbeats 4000000 in
set_option maxRecDepth 100000 in
theorem okX9_lowest (E : Ev) (l : Launch) (a0 : Int64) (a2 : Int64) (a4 : Int32) (h0 : Mem) : AMet E l yX9_lowest cX9_lowest 7 (some (.long)) rmX9_lowest [.long a0, .long a2, .int a4] h0 rvJ (fX9_lowest a0 a2 a4 h0) := by
  refine am_intro (plainFor_of_name (by decide +kernel)) (Nat.le_of_ble_eq_true rfl) (fun K hKl C hr hnm hz0 => ?_)
  replace C : CxOK K E RX9 cX9_lowest 7 := C
  have hE : E.1 + 1 ≤ (kS K).heap.size := by omega
  unfold fX9_lowest
  show Aw K E _ _ _ _ _ 0 [(0, .long a0), (2, .long a2), (4, .int a4)] [] h0 _
  refine aw_lload_n (pc := 0) C dX9_lowest_0 rfl 0 rfl ?_
  refine aw_callSJ (pc := 1) (R := rmX9_lowest) (As := [.long a0]) (rest := []) (st := [.long a0]) (c' := 0) (s' := 0) C hE cal_J9_abs_067f4 ml_X9_302 rfl ⟨(Nat.le_of_ble_eq_true rfl), (Nat.le_of_ble_eq_true rfl)⟩ ⟨(Nat.le_of_ble_eq_true rfl), (Nat.le_of_ble_eq_true rfl)⟩ dX9_lowest_1 (okJ9_abs_067f4 E (kL K) a0 h0) rfl (Nat.le_of_ble_eq_true rfl) rfl rfl (fun v2 h1 eh1 => ?_)
  refine aw_lload_n (pc := 4) C dX9_lowest_4 rfl 1 rfl ?_
  refine aw_callSJ (pc := 5) (R := rmX9_lowest) (As := [.long v2, .long a2]) (rest := []) (st := [.long a2, .long v2]) (c' := 0) (s' := 0) C hE cal_X9_commonDivisor ml_X9_308 rfl ⟨(Nat.le_of_ble_eq_true rfl), (Nat.le_of_ble_eq_true rfl)⟩ ⟨(Nat.le_of_ble_eq_true rfl), (Nat.le_of_ble_eq_true rfl)⟩ dX9_lowest_5 (okX9_commonDivisor E (kL K) v2 a2 h1) rfl (Nat.le_of_ble_eq_true rfl) rfl rfl (fun v4 h3 eh3 => ?_)
  refine aw_lstore (pc := 8) (L' := [(5, .long v4), (0, .long a0), (2, .long a2), (4, .int a4)]) C dX9_lowest_8 (by decide) rfl ?_
  refine aw_lload (pc := 10) C dX9_lowest_10 0 rfl ?_
  refine aw_lconst (pc := 12) (v := 1) C dX9_lowest_12 (by decide) ?_
  refine aw_lcmp (pc := 13) C dX9_lowest_13 ?_
  refine aw_if_ge (pc := 14) C 21 dX9_lowest_14 (by decide) (fun c6 => ?_) (fun c6 => ?_)
  · refine aw_iload (pc := 21) C dX9_lowest_21 3 rfl ?_
    refine aw_if_ne (pc := 23) C 33 dX9_lowest_23 (by decide) (fun c5 => ?_) (fun c5 => ?_)
    · refine aw_lload_n (pc := 26) C dX9_lowest_26 rfl 1 rfl ?_
      refine aw_lload (pc := 27) C dX9_lowest_27 0 rfl ?_
      refine aw_ldiv (pc := 29) C dX9_lowest_29 (fun z29 => ?_)
      refine aw_goto (pc := 30) C 37 dX9_lowest_30 (by decide) ?_
      exact aw_lreturn (pc := 37) C hr hz0 rfl dX9_lowest_37
    refine aw_lload_n (pc := 33) C dX9_lowest_33 rfl 2 rfl ?_
    refine aw_lload (pc := 34) C dX9_lowest_34 0 rfl ?_
    refine aw_ldiv (pc := 36) C dX9_lowest_36 (fun z36 => ?_)
    exact aw_lreturn (pc := 37) C hr hz0 rfl dX9_lowest_37
  refine aw_ldc2 (pc := 17) (v := (-9223372036854775808)) C kc_X9_163 dX9_lowest_17 ?_
  exact aw_lreturn (pc := 20) C hr hz0 rfl dX9_lowest_20
def rmX9_odds : Room := { frames := 2, cells := 0, slots := 0, locals := 56 }
set_option maxHeartbeats 4000000 in
set_option maxRecDepth 100000 in
theorem okX9_odds (E : Ev) (l : Launch) (a0 : Nat) (a1 : Int32) (h0 : Mem) : AMet E l yX9_odds cX9_odds 2 (some (.long)) rmX9_odds [rf E a0, .int a1] h0 rvJ (fX9_odds a0 a1 h0) := by
  refine am_intro (plainFor_of_name (by decide +kernel)) (Nat.le_of_ble_eq_true rfl) (fun K hKl C hr hnm hz0 => ?_)
  replace C : CxOK K E RX9 cX9_odds 2 := C
  have hE : E.1 + 1 ≤ (kS K).heap.size := by omega
  unfold fX9_odds
  show Aw K E _ _ _ _ _ 0 [(0, rf E a0), (1, .int a1)] [] h0 _
  refine aw_iload_n (pc := 0) C dX9_odds_0 rfl 1 rfl ?_
  refine aw_iconst (pc := 1) (v := 0) C dX9_odds_1 (by decide) ?_
  refine aw_iconst (pc := 2) (v := 1) C dX9_odds_2 (by decide) ?_
  refine aw_callSI (pc := 3) (R := rmX9_odds) (As := [.int a1, .int 0, .int 1]) (rest := []) (st := [.int 1, .int 0, .int a1]) (c' := 0) (s' := 0) C hE cal_X9_between ml_X9_67 rfl ⟨(Nat.le_of_ble_eq_true rfl), (Nat.le_of_ble_eq_true rfl)⟩ ⟨(Nat.le_of_ble_eq_true rfl), (Nat.le_of_ble_eq_true rfl)⟩ dX9_odds_3 (okX9_between E (kL K) a1 0 1 h0) rfl (Nat.le_of_ble_eq_true rfl) rfl rfl (fun v2 h1 eh1 => ?_)
  refine aw_if_ne (pc := 6) C 13 dX9_odds_6 (by decide) (fun c13 => ?_) (fun c13 => ?_)
  · refine aw_ldc2 (pc := 9) (v := (-9223372036854775808)) C kc_X9_163 dX9_odds_9 ?_
    exact aw_lreturn (pc := 12) C hr hz0 rfl dX9_odds_12
  refine aw_aload_n (pc := 13) C dX9_odds_13 rfl 0 rfl ?_
  refine aw_getR (pc := 14) C fl_X9_12 dX9_odds_14 (fun v3 ev3 => ?_)
  refine aw_getR (pc := 17) C fl_X9_71 dX9_odds_17 (fun v4 ev4 => ?_)
  refine aw_callVJ (pc := 20) (R := rmX9_odds) (c := 1) (As := []) (rest := []) (st := [rf E v4]) (c' := 0) (s' := 0) C hE rfl (by decide) cal_X1_valuesAboveM ml_X9_230 rfl ⟨(Nat.le_of_ble_eq_true rfl), (Nat.le_of_ble_eq_true rfl)⟩ ⟨(Nat.le_of_ble_eq_true rfl), (Nat.le_of_ble_eq_true rfl)⟩ dX9_odds_20 (okX1_valuesAboveM E (kL K) v4 h1) rfl (Nat.le_of_ble_eq_true rfl) rfl rfl (fun v6 h5 eh5 => ?_)
  refine aw_aload_n (pc := 23) C dX9_odds_23 rfl 0 rfl ?_
  refine aw_getR (pc := 24) C fl_X9_12 dX9_odds_24 (fun v7 ev7 => ?_)
  refine aw_getR (pc := 27) C fl_X9_71 dX9_odds_27 (fun v8 ev8 => ?_)
  refine aw_callVJ (pc := 30) (R := rmX9_odds) (c := 1) (As := []) (rest := [.long v6]) (st := [rf E v8, .long v6]) (c' := 0) (s' := 0) C hE rfl (by decide) cal_X1_twos ml_X9_234 rfl ⟨(Nat.le_of_ble_eq_true rfl), (Nat.le_of_ble_eq_true rfl)⟩ ⟨(Nat.le_of_ble_eq_true rfl), (Nat.le_of_ble_eq_true rfl)⟩ dX9_odds_30 (okX1_twos E (kL K) v8 h5) rfl (Nat.le_of_ble_eq_true rfl) rfl rfl (fun v10 h9 eh9 => ?_)
  refine aw_iload_n (pc := 33) C dX9_odds_33 rfl 1 rfl ?_
  refine aw_callSJ (pc := 34) (R := rmX9_odds) (As := [.long v6, .long v10, .int a1]) (rest := []) (st := [.int a1, .long v10, .long v6]) (c' := 0) (s' := 0) C hE cal_X9_lowest ml_X9_237 rfl ⟨(Nat.le_of_ble_eq_true rfl), (Nat.le_of_ble_eq_true rfl)⟩ ⟨(Nat.le_of_ble_eq_true rfl), (Nat.le_of_ble_eq_true rfl)⟩ dX9_odds_34 (okX9_lowest E (kL K) v6 v10 a1 h9) rfl (Nat.le_of_ble_eq_true rfl) rfl rfl (fun v12 h11 eh11 => ?_)
  exact aw_lreturn (pc := 37) C hr hz0 rfl dX9_odds_37
def rmX1_valuesTogether : Room := { frames := 1, cells := 0, slots := 0, locals := 29 }
set_option maxHeartbeats 4000000 in
set_option maxRecDepth 100000 in
theorem okX1_valuesTogether (E : Ev) (l : Launch) (a0 : Nat) (h0 : Mem) : AMet E l yX1_valuesTogether cX1_valuesTogether 5 (some (.long)) rmX1_valuesTogether [rf E a0] h0 rvJ (fX1_valuesTogether a0 h0) := by
  refine am_intro (plainFor_of_name (by decide +kernel)) (Nat.le_of_ble_eq_true rfl) (fun K hKl C hr hnm hz0 => ?_)
  replace C : CxOK K E RX1 cX1_valuesTogether 5 := C
  have hE : E.1 + 1 ≤ (kS K).heap.size := by omega
  unfold fX1_valuesTogether
  show Aw K E _ _ _ _ _ 0 [(0, rf E a0)] [] h0 _
  refine aw_lconst (pc := 0) (v := 0) C dX1_valuesTogether_0 (by decide) ?_
  refine aw_lstore_n (pc := 1) (L' := [(1, .long 0), (0, rf E a0)]) C dX1_valuesTogether_1 rfl (by decide) rfl ?_
  refine aw_aload_n (pc := 2) C dX1_valuesTogether_2 rfl 1 rfl ?_
  refine aw_getI (pc := 3) C fl_X1_22 dX1_valuesTogether_3 (fun v1 ev1 => ?_)
  refine aw_ineg (pc := 6) C dX1_valuesTogether_6 ?_
  refine aw_nmI (pc := 7) (fun v2 ev2 => ?_)
  refine aw_istore_n (pc := 7) (L' := [(3, .int v2), (1, .long 0), (0, rf E a0)]) C dX1_valuesTogether_7 rfl (by decide) rfl ?_
  refine aw_sub (L' := [(0, rf E a0), (1, .long 0), (3, .int v2)]) [2, 1, 0] rfl ?_
  refine aw_loop (pc := 8) (σ := Int64 × Int32 × Mem) (fun s => [(0, rf E a0), (1, .long s.1), (3, .int s.2.1)]) (fun s => s.2.2) _ (fun k6 ih7 s => ?_) _ _
  obtain ⟨v3, v4, h5⟩ := s
  show Aw K E _ _ _ _ _ 8 [(0, rf E a0), (1, .long v3), (3, .int v4)] [] h5 _
  refine aw_iload_n (pc := 8) C dX1_valuesTogether_8 rfl 2 rfl ?_
  refine aw_aload_n (pc := 9) C dX1_valuesTogether_9 rfl 0 rfl ?_
  refine aw_getI (pc := 10) C fl_X1_22 dX1_valuesTogether_10 (fun v8 ev8 => ?_)
  refine aw_icmp_gt (pc := 13) C 59 dX1_valuesTogether_13 (by decide) (fun c24 => ?_) (fun c24 => ?_)
  · refine aw_lload_n (pc := 59) C dX1_valuesTogether_59 rfl 1 rfl ?_
    exact aw_lreturn (pc := 60) C hr hz0 rfl dX1_valuesTogether_60
  refine aw_aload_n (pc := 16) C dX1_valuesTogether_16 rfl 0 rfl ?_
  refine aw_getI (pc := 17) C fl_X1_22 dX1_valuesTogether_17 (fun v9 ev9 => ?_)
  refine aw_ineg (pc := 20) C dX1_valuesTogether_20 ?_
  refine aw_nmI (pc := 21) (fun v10 ev10 => ?_)
  refine aw_istore (pc := 21) (L' := [(4, .int v10), (0, rf E a0), (1, .long v3), (3, .int v4)]) C dX1_valuesTogether_21 (by decide) rfl ?_
  refine aw_sub (L' := [(0, rf E a0), (1, .long v3), (3, .int v4), (4, .int v10)]) [1, 2, 3, 0] rfl ?_
  refine aw_loop (pc := 23) (σ := Int64 × Int32 × Mem) (fun s => [(0, rf E a0), (1, .long s.1), (3, .int v4), (4, .int s.2.1)]) (fun s => s.2.2) _ (fun k14 ih15 s => ?_) _ _
  obtain ⟨v11, v12, h13⟩ := s
  show Aw K E _ _ _ _ _ 23 [(0, rf E a0), (1, .long v11), (3, .int v4), (4, .int v12)] [] h13 _
  refine aw_iload (pc := 23) C dX1_valuesTogether_23 3 rfl ?_
  refine aw_aload_n (pc := 25) C dX1_valuesTogether_25 rfl 0 rfl ?_
  refine aw_getI (pc := 26) C fl_X1_22 dX1_valuesTogether_26 (fun v16 ev16 => ?_)
  refine aw_icmp_gt (pc := 29) C 53 dX1_valuesTogether_29 (by decide) (fun c23 => ?_) (fun c23 => ?_)
  · refine aw_iincN (pc := 53) (L1 := [(0, rf E a0), (1, .long v11), (4, .int v12)]) (k := 1) C dX1_valuesTogether_53 2 rfl (by decide) (by decide) rfl (fun v22 ev22 => ?_)
    refine aw_goto (pc := 56) C 8 dX1_valuesTogether_56 (by decide) ?_
    exact aw_sub (L' := [(0, rf E a0), (1, .long v11), (3, .int v22)]) [1, 2, 0] rfl (ih7 (v11, v22, h13))
  refine aw_lload_n (pc := 32) C dX1_valuesTogether_32 rfl 1 rfl ?_
  refine aw_aload_n (pc := 33) C dX1_valuesTogether_33 rfl 0 rfl ?_
  refine aw_getR (pc := 34) C fl_X1_12 dX1_valuesTogether_34 (fun v17 ev17 => ?_)
  refine aw_iload_n (pc := 37) C dX1_valuesTogether_37 rfl 2 rfl ?_
  refine aw_i2l (pc := 38) C dX1_valuesTogether_38 ?_
  refine aw_iload (pc := 39) C dX1_valuesTogether_39 3 rfl ?_
  refine aw_i2l (pc := 41) C dX1_valuesTogether_41 ?_
  refine aw_callVJ (pc := 42) (R := rmX1_valuesTogether) (c := 2) (As := [.long v4.toInt64, .long v12.toInt64]) (rest := [.long v11]) (st := [.long v12.toInt64, .long v4.toInt64, rf E v17, .long v11]) (c' := 0) (s' := 0) C hE rfl (by decide) cal_X2_at ml_X1_37 rfl ⟨(Nat.le_of_ble_eq_true rfl), (Nat.le_of_ble_eq_true rfl)⟩ ⟨(Nat.le_of_ble_eq_true rfl), (Nat.le_of_ble_eq_true rfl)⟩ dX1_valuesTogether_42 (okX2_at E (kL K) v17 v4.toInt64 v12.toInt64 h13) rfl (Nat.le_of_ble_eq_true rfl) rfl rfl (fun v19 h18 eh18 => ?_)
  refine aw_ladd (pc := 45) C dX1_valuesTogether_45 ?_
  refine aw_nmJ (pc := 46) (fun v20 ev20 => ?_)
  refine aw_lstore_n (pc := 46) (L' := [(1, .long v20), (0, rf E a0), (3, .int v4), (4, .int v12)]) C dX1_valuesTogether_46 rfl (by decide) rfl ?_
  refine aw_iincN (pc := 47) (L1 := [(1, .long v20), (0, rf E a0), (3, .int v4)]) (k := 1) C dX1_valuesTogether_47 3 rfl (by decide) (by decide) rfl (fun v21 ev21 => ?_)
  refine aw_goto (pc := 50) C 23 dX1_valuesTogether_50 (by decide) ?_
  exact aw_sub (L' := [(0, rf E a0), (1, .long v20), (3, .int v4), (4, .int v21)]) [2, 1, 3, 0] rfl (ih15 (v20, v21, h18))
def rmX9_mean : Room := { frames := 2, cells := 0, slots := 0, locals := 56 }
set_option maxHeartbeats 4000000 in
set_option maxRecDepth 100000 in
theorem okX9_mean (E : Ev) (l : Launch) (a0 : Nat) (a1 : Int32) (h0 : Mem) : AMet E l yX9_mean cX9_mean 2 (some (.long)) rmX9_mean [rf E a0, .int a1] h0 rvJ (fX9_mean a0 a1 h0) := by
  refine am_intro (plainFor_of_name (by decide +kernel)) (Nat.le_of_ble_eq_true rfl) (fun K hKl C hr hnm hz0 => ?_)
  replace C : CxOK K E RX9 cX9_mean 2 := C
  have hE : E.1 + 1 ≤ (kS K).heap.size := by omega
  unfold fX9_mean
  show Aw K E _ _ _ _ _ 0 [(0, rf E a0), (1, .int a1)] [] h0 _
  refine aw_iload_n (pc := 0) C dX9_mean_0 rfl 1 rfl ?_
  refine aw_iconst (pc := 1) (v := 0) C dX9_mean_1 (by decide) ?_
  refine aw_iconst (pc := 2) (v := 1) C dX9_mean_2 (by decide) ?_
  refine aw_callSI (pc := 3) (R := rmX9_mean) (As := [.int a1, .int 0, .int 1]) (rest := []) (st := [.int 1, .int 0, .int a1]) (c' := 0) (s' := 0) C hE cal_X9_between ml_X9_67 rfl ⟨(Nat.le_of_ble_eq_true rfl), (Nat.le_of_ble_eq_true rfl)⟩ ⟨(Nat.le_of_ble_eq_true rfl), (Nat.le_of_ble_eq_true rfl)⟩ dX9_mean_3 (okX9_between E (kL K) a1 0 1 h0) rfl (Nat.le_of_ble_eq_true rfl) rfl rfl (fun v2 h1 eh1 => ?_)
  refine aw_if_ne (pc := 6) C 13 dX9_mean_6 (by decide) (fun c13 => ?_) (fun c13 => ?_)
  · refine aw_ldc2 (pc := 9) (v := (-9223372036854775808)) C kc_X9_163 dX9_mean_9 ?_
    exact aw_lreturn (pc := 12) C hr hz0 rfl dX9_mean_12
  refine aw_aload_n (pc := 13) C dX9_mean_13 rfl 0 rfl ?_
  refine aw_getR (pc := 14) C fl_X9_12 dX9_mean_14 (fun v3 ev3 => ?_)
  refine aw_getR (pc := 17) C fl_X9_71 dX9_mean_17 (fun v4 ev4 => ?_)
  refine aw_callVJ (pc := 20) (R := rmX9_mean) (c := 1) (As := []) (rest := []) (st := [rf E v4]) (c' := 0) (s' := 0) C hE rfl (by decide) cal_X1_valuesTogether ml_X9_241 rfl ⟨(Nat.le_of_ble_eq_true rfl), (Nat.le_of_ble_eq_true rfl)⟩ ⟨(Nat.le_of_ble_eq_true rfl), (Nat.le_of_ble_eq_true rfl)⟩ dX9_mean_20 (okX1_valuesTogether E (kL K) v4 h1) rfl (Nat.le_of_ble_eq_true rfl) rfl rfl (fun v6 h5 eh5 => ?_)
  refine aw_aload_n (pc := 23) C dX9_mean_23 rfl 0 rfl ?_
  refine aw_getR (pc := 24) C fl_X9_12 dX9_mean_24 (fun v7 ev7 => ?_)
  refine aw_getR (pc := 27) C fl_X9_71 dX9_mean_27 (fun v8 ev8 => ?_)
  refine aw_callVJ (pc := 30) (R := rmX9_mean) (c := 1) (As := []) (rest := [.long v6]) (st := [rf E v8, .long v6]) (c' := 0) (s' := 0) C hE rfl (by decide) cal_X1_twos ml_X9_234 rfl ⟨(Nat.le_of_ble_eq_true rfl), (Nat.le_of_ble_eq_true rfl)⟩ ⟨(Nat.le_of_ble_eq_true rfl), (Nat.le_of_ble_eq_true rfl)⟩ dX9_mean_30 (okX1_twos E (kL K) v8 h5) rfl (Nat.le_of_ble_eq_true rfl) rfl rfl (fun v10 h9 eh9 => ?_)
  refine aw_iload_n (pc := 33) C dX9_mean_33 rfl 1 rfl ?_
  refine aw_callSJ (pc := 34) (R := rmX9_mean) (As := [.long v6, .long v10, .int a1]) (rest := []) (st := [.int a1, .long v10, .long v6]) (c' := 0) (s' := 0) C hE cal_X9_lowest ml_X9_237 rfl ⟨(Nat.le_of_ble_eq_true rfl), (Nat.le_of_ble_eq_true rfl)⟩ ⟨(Nat.le_of_ble_eq_true rfl), (Nat.le_of_ble_eq_true rfl)⟩ dX9_mean_34 (okX9_lowest E (kL K) v6 v10 a1 h9) rfl (Nat.le_of_ble_eq_true rfl) rfl rfl (fun v12 h11 eh11 => ?_)
  exact aw_lreturn (pc := 37) C hr hz0 rfl dX9_mean_37
def rmX9_event : Room := { frames := 1, cells := 0, slots := 0, locals := 24 }
set_option maxHeartbeats 4000000 in
set_option maxRecDepth 100000 in
theorem okX9_event (E : Ev) (l : Launch) (a0 : Nat) (a1 : Int32) (a2 : Int32) (h0 : Mem) : AMet E l yX9_event cX9_event 3 (some (.int)) rmX9_event [rf E a0, .int a1, .int a2] h0 rvI (fX9_event a0 a1 a2 h0) := by
  refine am_intro (plainFor_of_name (by decide +kernel)) (Nat.le_of_ble_eq_true rfl) (fun K hKl C hr hnm hz0 => ?_)
  replace C : CxOK K E RX9 cX9_event 3 := C
  have hE : E.1 + 1 ≤ (kS K).heap.size := by omega
  unfold fX9_event
  show Aw K E _ _ _ _ _ 0 [(0, rf E a0), (1, .int a1), (2, .int a2)] [] h0 _
  refine aw_iload_n (pc := 0) C dX9_event_0 rfl 1 rfl ?_
  refine aw_iconst (pc := 1) (v := (-1)) C dX9_event_1 (by decide) ?_
  refine aw_icmp_ne (pc := 2) C 16 dX9_event_2 (by decide) (fun c36 => ?_) (fun c36 => ?_)
  · refine aw_aload_n (pc := 5) C dX9_event_5 rfl 0 rfl ?_
    refine aw_getR (pc := 6) C fl_X9_12 dX9_event_6 (fun v1 ev1 => ?_)
    refine aw_getR (pc := 9) C fl_X9_244 dX9_event_9 (fun v2 ev2 => ?_)
    refine aw_callVI (pc := 12) (R := rmX9_event) (c := 4) (As := []) (rest := []) (st := [rf E v2]) (c' := 0) (s' := 0) C hE rfl (by decide) cal_X4_empty ml_X9_216 rfl ⟨(Nat.le_of_ble_eq_true rfl), (Nat.le_of_ble_eq_true rfl)⟩ ⟨(Nat.le_of_ble_eq_true rfl), (Nat.le_of_ble_eq_true rfl)⟩ dX9_event_12 (okX4_empty E (kL K) v2 h0) rfl (Nat.le_of_ble_eq_true rfl) rfl rfl (fun v4 h3 eh3 => ?_)
    exact aw_ireturn (pc := 15) C hr rfl hz0 rfl dX9_event_15
  refine aw_iload_n (pc := 16) C dX9_event_16 rfl 1 rfl ?_
  refine aw_iconst (pc := 17) (v := 0) C dX9_event_17 (by decide) ?_
  refine aw_iconst (pc := 18) (v := 2) C dX9_event_18 (by decide) ?_
  refine aw_callSI (pc := 19) (R := rmX9_event) (As := [.int a1, .int 0, .int 2]) (rest := []) (st := [.int 2, .int 0, .int a1]) (c' := 0) (s' := 0) C hE cal_X9_between ml_X9_67 rfl ⟨(Nat.le_of_ble_eq_true rfl), (Nat.le_of_ble_eq_true rfl)⟩ ⟨(Nat.le_of_ble_eq_true rfl), (Nat.le_of_ble_eq_true rfl)⟩ dX9_event_19 (okX9_between E (kL K) a1 0 2 h0) rfl (Nat.le_of_ble_eq_true rfl) rfl rfl (fun v6 h5 eh5 => ?_)
  refine aw_if_ne (pc := 22) C 27 dX9_event_22 (by decide) (fun c35 => ?_) (fun c35 => ?_)
  · refine aw_iconst (pc := 25) (v := (-1)) C dX9_event_25 (by decide) ?_
    exact aw_ireturn (pc := 26) C hr rfl hz0 rfl dX9_event_26
  refine aw_iload_n (pc := 27) C dX9_event_27 rfl 1 rfl ?_
  refine aw_jn (σ := Mem) 50 (fun s => [(0, rf E a0), (1, .int a1), (2, .int a2)]) (fun s => []) (fun s => s) (fun s => ?_) (fun k8 jk9 => ?_)
  · generalize s = h7
    show Aw K E _ _ _ _ _ 50 [(0, rf E a0), (1, .int a1), (2, .int a2)] [] h7 _
    refine aw_iload_n (pc := 50) C dX9_event_50 rfl 1 rfl ?_
    refine aw_iconst (pc := 51) (v := 1) C dX9_event_51 (by decide) ?_
    refine aw_jn (σ := Mem) 64 (fun s => [(0, rf E a0), (1, .int a1), (2, .int a2)]) (fun s => []) (fun s => s) (fun s => ?_) (fun k11 jk12 => ?_)
    · generalize s = h10
      show Aw K E _ _ _ _ _ 64 [(0, rf E a0), (1, .int a1), (2, .int a2)] [] h10 _
      refine aw_iload_n (pc := 64) C dX9_event_64 rfl 1 rfl ?_
      refine aw_iconst (pc := 65) (v := 2) C dX9_event_65 (by decide) ?_
      refine aw_jn (σ := Mem) 83 (fun s => [(0, rf E a0), (1, .int a1), (2, .int a2)]) (fun s => []) (fun s => s) (fun s => ?_) (fun k14 jk15 => ?_)
      · generalize s = h13
        show Aw K E _ _ _ _ _ 83 [(0, rf E a0), (1, .int a1), (2, .int a2)] [] h13 _
        refine aw_aload_n (pc := 83) C dX9_event_83 rfl 0 rfl ?_
        refine aw_getR (pc := 84) C fl_X9_12 dX9_event_84 (fun v16 ev16 => ?_)
        refine aw_getR (pc := 87) C fl_X9_244 dX9_event_87 (fun v17 ev17 => ?_)
        refine aw_iload_n (pc := 90) C dX9_event_90 rfl 1 rfl ?_
        refine aw_iload_n (pc := 91) C dX9_event_91 rfl 2 rfl ?_
        refine aw_iconst (pc := 92) (v := 0) C dX9_event_92 (by decide) ?_
        refine aw_callVI (pc := 93) (R := rmX9_event) (c := 4) (As := [.int a1, .int a2, .int 0]) (rest := []) (st := [.int 0, .int a2, .int a1, rf E v17]) (c' := 0) (s' := 0) C hE rfl (by decide) cal_X4_add ml_X9_219 rfl ⟨(Nat.le_of_ble_eq_true rfl), (Nat.le_of_ble_eq_true rfl)⟩ ⟨(Nat.le_of_ble_eq_true rfl), (Nat.le_of_ble_eq_true rfl)⟩ dX9_event_93 (okX4_add E (kL K) v17 a1 a2 0 h13) rfl (Nat.le_of_ble_eq_true rfl) rfl rfl (fun v19 h18 eh18 => ?_)
        exact aw_ireturn (pc := 96) C hr rfl hz0 rfl dX9_event_96
      refine aw_icmp_ne (pc := 66) C 83 dX9_event_66 (by decide) (fun c23 => ?_) (fun c23 => ?_)
      · refine aw_iload_n (pc := 69) C dX9_event_69 rfl 2 rfl ?_
        refine aw_bipush (pc := 70) (v := (-99)) C dX9_event_70 (by decide) ?_
        refine aw_bipush (pc := 72) (v := 99) C dX9_event_72 (by decide) ?_
        refine aw_callSI (pc := 74) (R := rmX9_event) (As := [.int a2, .int (-99), .int 99]) (rest := []) (st := [.int 99, .int (-99), .int a2]) (c' := 0) (s' := 0) C hE cal_X9_between ml_X9_67 rfl ⟨(Nat.le_of_ble_eq_true rfl), (Nat.le_of_ble_eq_true rfl)⟩ ⟨(Nat.le_of_ble_eq_true rfl), (Nat.le_of_ble_eq_true rfl)⟩ dX9_event_74 (okX9_between E (kL K) a2 (-99) 99 h10) rfl (Nat.le_of_ble_eq_true rfl) rfl rfl (fun v21 h20 eh20 => ?_)
        refine aw_if_ne (pc := 77) C 83 dX9_event_77 (by decide) (fun c22 => ?_) (fun c22 => ?_)
        · refine aw_bipush (pc := 80) (v := (-2)) C dX9_event_80 (by decide) ?_
          exact aw_ireturn (pc := 82) C hr rfl hz0 rfl dX9_event_82
        exact aw_sub (L' := [(0, rf E a0), (1, .int a1), (2, .int a2)]) [0, 1, 2] rfl (jk15 h20)
      exact aw_sub (L' := [(0, rf E a0), (1, .int a1), (2, .int a2)]) [0, 1, 2] rfl (jk15 h10)
    refine aw_icmp_ne (pc := 52) C 64 dX9_event_52 (by decide) (fun c27 => ?_) (fun c27 => ?_)
    · refine aw_iload_n (pc := 55) C dX9_event_55 rfl 2 rfl ?_
      refine aw_callSI (pc := 56) (R := rmX9_event) (As := [.int a2]) (rest := []) (st := [.int a2]) (c' := 0) (s' := 0) C hE cal_X2_isMove ml_X9_106 rfl ⟨(Nat.le_of_ble_eq_true rfl), (Nat.le_of_ble_eq_true rfl)⟩ ⟨(Nat.le_of_ble_eq_true rfl), (Nat.le_of_ble_eq_true rfl)⟩ dX9_event_56 (okX2_isMove E (kL K) a2 h7) rfl (Nat.le_of_ble_eq_true rfl) rfl rfl (fun v25 h24 eh24 => ?_)
      refine aw_if_ne (pc := 59) C 64 dX9_event_59 (by decide) (fun c26 => ?_) (fun c26 => ?_)
      · refine aw_iconst (pc := 62) (v := (-1)) C dX9_event_62 (by decide) ?_
        exact aw_ireturn (pc := 63) C hr rfl hz0 rfl dX9_event_63
      exact aw_sub (L' := [(0, rf E a0), (1, .int a1), (2, .int a2)]) [0, 1, 2] rfl (jk12 h24)
    exact aw_sub (L' := [(0, rf E a0), (1, .int a1), (2, .int a2)]) [0, 1, 2] rfl (jk12 h7)
  refine aw_if_ne (pc := 28) C 50 dX9_event_28 (by decide) (fun c34 => ?_) (fun c34 => ?_)
  · refine aw_aload_n (pc := 31) C dX9_event_31 rfl 0 rfl ?_
    refine aw_getR (pc := 32) C fl_X9_12 dX9_event_32 (fun v28 ev28 => ?_)
    refine aw_getR (pc := 35) C fl_X9_71 dX9_event_35 (fun v29 ev29 => ?_)
    refine aw_getR (pc := 38) C fl_X9_74 dX9_event_38 (fun v30 ev30 => ?_)
    refine aw_iload_n (pc := 41) C dX9_event_41 rfl 2 rfl ?_
    refine aw_callVI (pc := 42) (R := rmX9_event) (c := 2) (As := [.int a2]) (rest := []) (st := [.int a2, rf E v30]) (c' := 0) (s' := 0) C hE rfl (by decide) cal_X2_has ml_X9_88 rfl ⟨(Nat.le_of_ble_eq_true rfl), (Nat.le_of_ble_eq_true rfl)⟩ ⟨(Nat.le_of_ble_eq_true rfl), (Nat.le_of_ble_eq_true rfl)⟩ dX9_event_42 (okX2_has E (kL K) v30 a2 h5) rfl (Nat.le_of_ble_eq_true rfl) rfl rfl (fun v32 h31 eh31 => ?_)
    refine aw_if_ne (pc := 45) C 50 dX9_event_45 (by decide) (fun c33 => ?_) (fun c33 => ?_)
    · refine aw_iconst (pc := 48) (v := (-1)) C dX9_event_48 (by decide) ?_
      exact aw_ireturn (pc := 49) C hr rfl hz0 rfl dX9_event_49
    exact aw_sub (L' := [(0, rf E a0), (1, .int a1), (2, .int a2)]) [0, 1, 2] rfl (jk9 h31)
  exact aw_sub (L' := [(0, rf E a0), (1, .int a1), (2, .int a2)]) [0, 1, 2] rfl (jk9 h5)
def rmJ9_min_7cf53 : Room := { frames := 0, cells := 0, slots := 0, locals := 0 }
set_option maxHeartbeats 4000000 in
set_option maxRecDepth 100000 in
theorem okJ9_min_7cf53 (E : Ev) (l : Launch) (a0 : Int32) (a1 : Int32) (h0 : Mem) : AMet E l yJ9_min_7cf53 cJ9_min_7cf53 2 (some (.int)) rmJ9_min_7cf53 [.int a0, .int a1] h0 rvI (fJ9_min_7cf53 a0 a1 h0) := by
  refine am_intro (mathPlain rfl rfl) (Nat.le_of_ble_eq_true rfl) (fun K hKl C hr hnm hz0 => ?_)
  replace C : CxOK K E RJ9 cJ9_min_7cf53 2 := C
  have hE : E.1 + 1 ≤ (kS K).heap.size := by omega
  unfold fJ9_min_7cf53
  show Aw K E _ _ _ _ _ 0 [(0, .int a0), (1, .int a1)] [] h0 _
  refine aw_iload_n (pc := 0) C dJ9_min_7cf53_0 rfl 0 rfl ?_
  refine aw_iload_n (pc := 1) C dJ9_min_7cf53_1 rfl 1 rfl ?_
  refine aw_icmp_gt (pc := 2) C 9 dJ9_min_7cf53_2 (by decide) (fun c1 => ?_) (fun c1 => ?_)
  · refine aw_iload_n (pc := 9) C dJ9_min_7cf53_9 rfl 1 rfl ?_
    exact aw_ireturn (pc := 10) C hr rfl hz0 rfl dJ9_min_7cf53_10
  refine aw_iload_n (pc := 5) C dJ9_min_7cf53_5 rfl 0 rfl ?_
  refine aw_goto (pc := 6) C 10 dJ9_min_7cf53_6 (by decide) ?_
  exact aw_ireturn (pc := 10) C hr rfl hz0 rfl dJ9_min_7cf53_10
def rmX2_raise : Room := { frames := 2, cells := 0, slots := 0, locals := 43 }
set_option maxHeartbeats 4000000 in
set_option maxRecDepth 100000 in
theorem okX2_raise (E : Ev) (l : Launch) (a0 : Nat) (a1 : Int32) (h0 : Mem) : AMet E l yX2_raise cX2_raise 2 none rmX2_raise [rf E a0, .int a1] h0 rvV (fX2_raise a0 a1 h0) := by
  refine am_intro (plainFor_of_name (by decide +kernel)) (Nat.le_of_ble_eq_true rfl) (fun K hKl C hr hnm hz0 => ?_)
  replace C : CxOK K E RX2 cX2_raise 2 := C
  have hE : E.1 + 1 ≤ (kS K).heap.size := by omega
  unfold fX2_raise
  show Aw K E _ _ _ _ _ 0 [(0, rf E a0), (1, .int a1)] [] h0 _
  refine aw_aload_n (pc := 0) C dX2_raise_0 rfl 0 rfl ?_
  refine aw_iload_n (pc := 1) C dX2_raise_1 rfl 1 rfl ?_
  refine aw_bipush (pc := 2) (v := 99) C dX2_raise_2 (by decide) ?_
  refine aw_aload_n (pc := 4) C dX2_raise_4 rfl 0 rfl ?_
  refine aw_iload_n (pc := 5) C dX2_raise_5 rfl 1 rfl ?_
  refine aw_callVI (pc := 6) (R := rmX2_raise) (c := 2) (As := [.int a1]) (rest := [.int 99, .int a1, rf E a0]) (st := [.int a1, rf E a0, .int 99, .int a1, rf E a0]) (c' := 0) (s' := 0) C hE rfl (by decide) cal_X2_get ml_X2_42 rfl ⟨(Nat.le_of_ble_eq_true rfl), (Nat.le_of_ble_eq_true rfl)⟩ ⟨(Nat.le_of_ble_eq_true rfl), (Nat.le_of_ble_eq_true rfl)⟩ dX2_raise_6 (okX2_get E (kL K) a0 a1 h0) rfl (Nat.le_of_ble_eq_true rfl) rfl rfl (fun v2 h1 eh1 => ?_)
  refine aw_iconst (pc := 9) (v := 1) C dX2_raise_9 (by decide) ?_
  refine aw_iadd (pc := 10) C dX2_raise_10 ?_
  refine aw_callSI (pc := 11) (R := rmX2_raise) (As := [.int 99, .int (v2 + 1)]) (rest := [.int a1, rf E a0]) (st := [.int (v2 + 1), .int 99, .int a1, rf E a0]) (c' := 0) (s' := 0) C hE cal_J9_min_7cf53 ml_X2_46 rfl ⟨(Nat.le_of_ble_eq_true rfl), (Nat.le_of_ble_eq_true rfl)⟩ ⟨(Nat.le_of_ble_eq_true rfl), (Nat.le_of_ble_eq_true rfl)⟩ dX2_raise_11 (okJ9_min_7cf53 E (kL K) 99 (v2 + 1) h1) rfl (Nat.le_of_ble_eq_true rfl) rfl rfl (fun v4 h3 eh3 => ?_)
  refine aw_callVV (pc := 14) (R := rmX2_raise) (c := 2) (As := [.int a1, .int v4]) (rest := []) (st := [.int v4, .int a1, rf E a0]) (c' := 0) (s' := 0) C hE rfl (by decide) cal_X2_set ml_X2_52 rfl ⟨(Nat.le_of_ble_eq_true rfl), (Nat.le_of_ble_eq_true rfl)⟩ ⟨(Nat.le_of_ble_eq_true rfl), (Nat.le_of_ble_eq_true rfl)⟩ dX2_raise_14 (okX2_set E (kL K) a0 a1 v4 h3) rfl (Nat.le_of_ble_eq_true rfl) rfl rfl (fun _u h5 eh5 => ?_)
  exact aw_return (pc := 17) C hr hz0 rfl dX2_raise_17
