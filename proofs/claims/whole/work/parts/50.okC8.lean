def rmX7_hasAll : Room := { frames := 0, cells := 0, slots := 0, locals := 0 }
set_option maxHeartbeats 4000000 in
set_option maxRecDepth 100000 in
theorem okX7_hasAll (E : Ev) (l : Launch) (a0 : Nat) (a1 : Int32) (a2 : Int32) (h0 : Mem) : AMet E l yX7_hasAll cX7_hasAll 3 (some (.boolean)) rmX7_hasAll [rf E a0, .int a1, .int a2] h0 rvI (fX7_hasAll a0 a1 a2 h0) := by
  refine am_intro (plainFor_of_name (by decide +kernel)) (Nat.le_of_ble_eq_true rfl) (fun K hKl C hr hnm hz0 => ?_)
  replace C : CxOK K E RX7 cX7_hasAll 3 := C
  have hE : E.1 + 1 ≤ (kS K).heap.size := by omega
  unfold fX7_hasAll
  show Aw K E _ _ _ _ _ 0 [(0, rf E a0), (1, .int a1), (2, .int a2)] [] h0 _
  refine aw_iload_n (pc := 0) C dX7_hasAll_0 rfl 1 rfl ?_
  refine aw_if_lt (pc := 1) C 22 dX7_hasAll_1 (by decide) (fun c4 => ?_) (fun c4 => ?_)
  · refine aw_iconst (pc := 22) (v := 0) C dX7_hasAll_22 (by decide) ?_
    exact aw_ireturn (pc := 23) C hr rfl hz0 rfl dX7_hasAll_23
  refine aw_iload_n (pc := 4) C dX7_hasAll_4 rfl 2 rfl ?_
  refine aw_if_lt (pc := 5) C 22 dX7_hasAll_5 (by decide) (fun c3 => ?_) (fun c3 => ?_)
  · refine aw_iconst (pc := 22) (v := 0) C dX7_hasAll_22 (by decide) ?_
    exact aw_ireturn (pc := 23) C hr rfl hz0 rfl dX7_hasAll_23
  refine aw_iload_n (pc := 8) C dX7_hasAll_8 rfl 1 rfl ?_
  refine aw_aload_n (pc := 9) C dX7_hasAll_9 rfl 0 rfl ?_
  refine aw_getI (pc := 10) C fl_X7_19 dX7_hasAll_10 (fun v1 ev1 => ?_)
  refine aw_iload_n (pc := 13) C dX7_hasAll_13 rfl 2 rfl ?_
  refine aw_isub (pc := 14) C dX7_hasAll_14 ?_
  refine aw_icmp_gt (pc := 15) C 22 dX7_hasAll_15 (by decide) (fun c2 => ?_) (fun c2 => ?_)
  · refine aw_iconst (pc := 22) (v := 0) C dX7_hasAll_22 (by decide) ?_
    exact aw_ireturn (pc := 23) C hr rfl hz0 rfl dX7_hasAll_23
  refine aw_iconst (pc := 18) (v := 1) C dX7_hasAll_18 (by decide) ?_
  refine aw_goto (pc := 19) C 23 dX7_hasAll_19 (by decide) ?_
  exact aw_ireturn (pc := 23) C hr rfl hz0 rfl dX7_hasAll_23
def rmX9_shift : Room := { frames := 1, cells := 0, slots := 0, locals := 80 }
set_option maxHeartbeats 4000000 in
set_option maxRecDepth 100000 in
theorem okX9_shift (E : Ev) (l : Launch) (a0 : Nat) (a1 : Int32) (a2 : Int32) (a3 : Int32) (a4 : Int32) (a5 : Int32) (h0 : Mem) : AMet E l yX9_shift cX9_shift 8 (some (.int)) rmX9_shift [rf E a0, .int a1, .int a2, .int a3, .int a4, .int a5] h0 rvI (fX9_shift a0 a1 a2 a3 a4 a5 h0) := by
  refine am_intro (plainFor_of_name (by decide +kernel)) (Nat.le_of_ble_eq_true rfl) (fun K hKl C hr hnm hz0 => ?_)
  replace C : CxOK K E RX9 cX9_shift 8 := C
  have hE : E.1 + 1 ≤ (kS K).heap.size := by omega
  unfold fX9_shift
  show Aw K E _ _ _ _ _ 0 [(0, rf E a0), (1, .int a1), (2, .int a2), (3, .int a3), (4, .int a4), (5, .int a5)] [] h0 _
  refine aw_aload_n (pc := 0) C dX9_shift_0 rfl 0 rfl ?_
  refine aw_iload_n (pc := 1) C dX9_shift_1 rfl 1 rfl ?_
  refine aw_callVR (pc := 2) (c := 9) (As := [.int a1]) (rest := []) (c' := 0) (s' := 0) C hE rfl (by decide) cal_X9_tapeAt ml_X9_265 rfl ⟨(Nat.le_of_ble_eq_true rfl), (Nat.le_of_ble_eq_true rfl)⟩ ⟨(Nat.le_of_ble_eq_true rfl), (Nat.le_of_ble_eq_true rfl)⟩ dX9_shift_2 (okX9_tapeAt E (kL K) a0 a1 h0) rfl (Nat.le_of_ble_eq_true rfl) rfl rfl (fun h3 eh3 => ?_) (fun v2 h1 ev2 nv2 => ?_)
  · refine aw_astoreN (pc := 5) (L' := [(6, .null), (0, rf E a0), (1, .int a1), (2, .int a2), (3, .int a3), (4, .int a4), (5, .int a5)]) C dX9_shift_5 (by decide) rfl ?_
    refine aw_aload_n (pc := 7) C dX9_shift_7 rfl 1 rfl ?_
    refine aw_iload_n (pc := 8) C dX9_shift_8 rfl 4 rfl ?_
    refine aw_callVR (pc := 9) (c := 9) (As := [.int a3]) (rest := []) (c' := 0) (s' := 0) C hE rfl (by decide) cal_X9_tapeAt ml_X9_265 rfl ⟨(Nat.le_of_ble_eq_true rfl), (Nat.le_of_ble_eq_true rfl)⟩ ⟨(Nat.le_of_ble_eq_true rfl), (Nat.le_of_ble_eq_true rfl)⟩ dX9_shift_9 (okX9_tapeAt E (kL K) a0 a3 h3) rfl (Nat.le_of_ble_eq_true rfl) rfl rfl (fun h6 eh6 => ?_) (fun v5 h4 ev5 nv5 => ?_)
    · refine aw_astoreN (pc := 12) (L' := [(7, .null), (6, .null), (0, rf E a0), (1, .int a1), (2, .int a2), (3, .int a3), (4, .int a4), (5, .int a5)]) C dX9_shift_12 (by decide) rfl ?_
      refine aw_aloadN (pc := 14) C dX9_shift_14 1 rfl ?_
      refine aw_ifnull_t (pc := 16) C 24 dX9_shift_16 (by decide) ?_
      refine aw_iconst (pc := 24) (v := (-1)) C dX9_shift_24 (by decide) ?_
      exact aw_ireturn (pc := 25) C hr rfl hz0 rfl dX9_shift_25
    refine aw_astore (pc := 12) (L' := [(7, rf E v5), (6, .null), (0, rf E a0), (1, .int a1), (2, .int a2), (3, .int a3), (4, .int a4), (5, .int a5)]) C dX9_shift_12 (by decide) rfl ?_
    refine aw_aloadN (pc := 14) C dX9_shift_14 1 rfl ?_
    refine aw_ifnull_t (pc := 16) C 24 dX9_shift_16 (by decide) ?_
    refine aw_iconst (pc := 24) (v := (-1)) C dX9_shift_24 (by decide) ?_
    exact aw_ireturn (pc := 25) C hr rfl hz0 rfl dX9_shift_25
  refine aw_astore (pc := 5) (L' := [(6, rf E v2), (0, rf E a0), (1, .int a1), (2, .int a2), (3, .int a3), (4, .int a4), (5, .int a5)]) C dX9_shift_5 (by decide) rfl ?_
  refine aw_aload_n (pc := 7) C dX9_shift_7 rfl 1 rfl ?_
  refine aw_iload_n (pc := 8) C dX9_shift_8 rfl 4 rfl ?_
  refine aw_callVR (pc := 9) (c := 9) (As := [.int a3]) (rest := []) (c' := 0) (s' := 0) C hE rfl (by decide) cal_X9_tapeAt ml_X9_265 rfl ⟨(Nat.le_of_ble_eq_true rfl), (Nat.le_of_ble_eq_true rfl)⟩ ⟨(Nat.le_of_ble_eq_true rfl), (Nat.le_of_ble_eq_true rfl)⟩ dX9_shift_9 (okX9_tapeAt E (kL K) a0 a3 h1) rfl (Nat.le_of_ble_eq_true rfl) rfl rfl (fun h9 eh9 => ?_) (fun v8 h7 ev8 nv8 => ?_)
  · refine aw_astoreN (pc := 12) (L' := [(7, .null), (6, rf E v2), (0, rf E a0), (1, .int a1), (2, .int a2), (3, .int a3), (4, .int a4), (5, .int a5)]) C dX9_shift_12 (by decide) rfl ?_
    refine aw_aload (pc := 14) C dX9_shift_14 1 rfl ?_
    refine aw_ifnull_f (pc := 16) C dX9_shift_16 ?_
    refine aw_aloadN (pc := 19) C dX9_shift_19 0 rfl ?_
    refine aw_ifnonnull_f (pc := 21) C dX9_shift_21 ?_
    refine aw_iconst (pc := 24) (v := (-1)) C dX9_shift_24 (by decide) ?_
    exact aw_ireturn (pc := 25) C hr rfl hz0 rfl dX9_shift_25
  refine aw_astore (pc := 12) (L' := [(7, rf E v8), (6, rf E v2), (0, rf E a0), (1, .int a1), (2, .int a2), (3, .int a3), (4, .int a4), (5, .int a5)]) C dX9_shift_12 (by decide) rfl ?_
  refine aw_aload (pc := 14) C dX9_shift_14 1 rfl ?_
  refine aw_ifnull_f (pc := 16) C dX9_shift_16 ?_
  refine aw_aload (pc := 19) C dX9_shift_19 0 rfl ?_
  refine aw_ifnonnull_t (pc := 21) C 26 dX9_shift_21 (by decide) ?_
  refine aw_aload (pc := 26) C dX9_shift_26 1 rfl ?_
  refine aw_callVI (pc := 28) (c := 7) (As := []) (rest := []) (c' := 0) (s' := 0) C hE rfl (by decide) cal_X7_holdsNothing ml_X9_269 rfl ⟨(Nat.le_of_ble_eq_true rfl), (Nat.le_of_ble_eq_true rfl)⟩ ⟨(Nat.le_of_ble_eq_true rfl), (Nat.le_of_ble_eq_true rfl)⟩ dX9_shift_28 (okX7_holdsNothing E (kL K) v2 h7) rfl (Nat.le_of_ble_eq_true rfl) rfl rfl (fun v11 h10 eh10 => ?_)
  refine aw_if_ne (pc := 31) C 42 dX9_shift_31 (by decide) (fun c27 => ?_) (fun c27 => ?_)
  · refine aw_aload (pc := 34) C dX9_shift_34 0 rfl ?_
    refine aw_callVI (pc := 36) (c := 7) (As := []) (rest := []) (c' := 0) (s' := 0) C hE rfl (by decide) cal_X7_holdsNothing ml_X9_269 rfl ⟨(Nat.le_of_ble_eq_true rfl), (Nat.le_of_ble_eq_true rfl)⟩ ⟨(Nat.le_of_ble_eq_true rfl), (Nat.le_of_ble_eq_true rfl)⟩ dX9_shift_36 (okX7_holdsNothing E (kL K) v8 h10) rfl (Nat.le_of_ble_eq_true rfl) rfl rfl (fun v13 h12 eh12 => ?_)
    refine aw_if_eq (pc := 39) C 45 dX9_shift_39 (by decide) (fun c26 => ?_) (fun c26 => ?_)
    · refine aw_aload (pc := 45) C dX9_shift_45 1 rfl ?_
      refine aw_getI (pc := 47) C fl_X9_273 dX9_shift_47 (fun v14 ev14 => ?_)
      refine aw_aload (pc := 50) C dX9_shift_50 0 rfl ?_
      refine aw_getI (pc := 52) C fl_X9_273 dX9_shift_52 (fun v15 ev15 => ?_)
      refine aw_icmp_eq (pc := 55) C 61 dX9_shift_55 (by decide) (fun c25 => ?_) (fun c25 => ?_)
      · refine aw_aload (pc := 61) C dX9_shift_61 1 rfl ?_
        refine aw_iload_n (pc := 63) C dX9_shift_63 rfl 4 rfl ?_
        refine aw_iload (pc := 64) C dX9_shift_64 7 rfl ?_
        refine aw_callVI (pc := 66) (c := 7) (As := [.int a2, .int a5]) (rest := []) (c' := 0) (s' := 0) C hE rfl (by decide) cal_X7_hasAll ml_X9_288 rfl ⟨(Nat.le_of_ble_eq_true rfl), (Nat.le_of_ble_eq_true rfl)⟩ ⟨(Nat.le_of_ble_eq_true rfl), (Nat.le_of_ble_eq_true rfl)⟩ dX9_shift_66 (okX7_hasAll E (kL K) v2 a2 a5 h12) rfl (Nat.le_of_ble_eq_true rfl) rfl rfl (fun v17 h16 eh16 => ?_)
        refine aw_if_eq (pc := 69) C 84 dX9_shift_69 (by decide) (fun c24 => ?_) (fun c24 => ?_)
        · refine aw_bipush (pc := 84) (v := (-13)) C dX9_shift_84 (by decide) ?_
          exact aw_ireturn (pc := 86) C hr rfl hz0 rfl dX9_shift_86
        refine aw_aload (pc := 72) C dX9_shift_72 0 rfl ?_
        refine aw_iload (pc := 74) C dX9_shift_74 6 rfl ?_
        refine aw_iload (pc := 76) C dX9_shift_76 7 rfl ?_
        refine aw_callVI (pc := 78) (c := 7) (As := [.int a4, .int a5]) (rest := []) (c' := 0) (s' := 0) C hE rfl (by decide) cal_X7_hasAll ml_X9_288 rfl ⟨(Nat.le_of_ble_eq_true rfl), (Nat.le_of_ble_eq_true rfl)⟩ ⟨(Nat.le_of_ble_eq_true rfl), (Nat.le_of_ble_eq_true rfl)⟩ dX9_shift_78 (okX7_hasAll E (kL K) v8 a4 a5 h16) rfl (Nat.le_of_ble_eq_true rfl) rfl rfl (fun v19 h18 eh18 => ?_)
        refine aw_if_ne (pc := 81) C 87 dX9_shift_81 (by decide) (fun c23 => ?_) (fun c23 => ?_)
        · refine aw_bipush (pc := 84) (v := (-13)) C dX9_shift_84 (by decide) ?_
          exact aw_ireturn (pc := 86) C hr rfl hz0 rfl dX9_shift_86
        refine aw_aload (pc := 87) C dX9_shift_87 1 rfl ?_
        refine aw_getR (pc := 89) C fl_X9_292 dX9_shift_89 (fun v20 ev20 => ?_)
        refine aw_iload_n (pc := 92) C dX9_shift_92 rfl 4 rfl ?_
        refine aw_aload (pc := 93) C dX9_shift_93 0 rfl ?_
        refine aw_getR (pc := 95) C fl_X9_292 dX9_shift_95 (fun v21 ev21 => ?_)
        refine aw_iload (pc := 98) C dX9_shift_98 6 rfl ?_
        refine aw_iload (pc := 100) C dX9_shift_100 7 rfl ?_
        refine aw_copyJ (pc := 102) C ml_X9_296 ac_1 ac_2 ac_3 (Nat.le_of_ble_eq_true rfl) (by decide +kernel) dX9_shift_102 (fun h22 eh22 => ?_)
        refine aw_iload (pc := 105) C dX9_shift_105 7 rfl ?_
        exact aw_ireturn (pc := 107) C hr rfl hz0 rfl dX9_shift_107
      refine aw_bipush (pc := 58) (v := (-12)) C dX9_shift_58 (by decide) ?_
      exact aw_ireturn (pc := 60) C hr rfl hz0 rfl dX9_shift_60
    refine aw_bipush (pc := 42) (v := (-11)) C dX9_shift_42 (by decide) ?_
    exact aw_ireturn (pc := 44) C hr rfl hz0 rfl dX9_shift_44
  refine aw_bipush (pc := 42) (v := (-11)) C dX9_shift_42 (by decide) ?_
  exact aw_ireturn (pc := 44) C hr rfl hz0 rfl dX9_shift_44
