def rmX9_tape : Room := { frames := 2, cells := 0, slots := 0, locals := 46 }
set_option maxHeartbeats 4000000 in
set_option maxRecDepth 100000 in
theorem okX9_tape (E : Ev) (l : Launch) (a0 : Nat) (a1 : Int32) (a2 : Int32) (a3 : Int32) (h0 : Mem) : AMet E l yX9_tape cX9_tape 5 (some (.int)) rmX9_tape [rf E a0, .int a1, .int a2, .int a3] h0 rvI (fX9_tape a0 a1 a2 a3 h0) := by
  refine am_intro (plainFor_of_name (by decide +kernel)) (Nat.le_of_ble_eq_true rfl) (fun K hKl C hr hnm hz0 => ?_)
  replace C : CxOK K E RX9 cX9_tape 5 := C
  have hE : E.1 + 1 ≤ (kS K).heap.size := by omega
  unfold fX9_tape
  show Aw K E _ _ _ _ _ 0 [(0, rf E a0), (1, .int a1), (2, .int a2), (3, .int a3)] [] h0 _
  refine aw_aload_n (pc := 0) C dX9_tape_0 rfl 0 rfl ?_
  refine aw_iload_n (pc := 1) C dX9_tape_1 rfl 1 rfl ?_
  refine aw_callVR (pc := 2) (R := rmX9_tape) (c := 9) (As := [.int a1]) (rest := []) (st := [.int a1, rf E a0]) (c' := 0) (s' := 0) C hE rfl (by decide) cal_X9_tapeAt ml_X9_265 rfl ⟨(Nat.le_of_ble_eq_true rfl), (Nat.le_of_ble_eq_true rfl)⟩ ⟨(Nat.le_of_ble_eq_true rfl), (Nat.le_of_ble_eq_true rfl)⟩ dX9_tape_2 (okX9_tapeAt E (kL K) a0 a1 h0) rfl (Nat.le_of_ble_eq_true rfl) rfl rfl (fun h1 eh1 => ?_) (fun v2 h1 ev2 nv2 => ?_)
  · refine aw_itt rfl ?_
    refine aw_astoreN (pc := 5) (L' := [(4, .null), (0, rf E a0), (1, .int a1), (2, .int a2), (3, .int a3)]) C dX9_tape_5 (by decide) rfl ?_
    refine aw_aloadN (pc := 7) C dX9_tape_7 0 rfl ?_
    refine aw_ifnonnull_f (pc := 9) C dX9_tape_9 ?_
    refine aw_iconst (pc := 12) (v := (-1)) C dX9_tape_12 (by decide) ?_
    exact aw_ireturn (pc := 13) C hr rfl hz0 rfl dX9_tape_13
  refine aw_itf nv2 ?_
  refine aw_astore (pc := 5) (L' := [(4, rf E v2), (0, rf E a0), (1, .int a1), (2, .int a2), (3, .int a3)]) C dX9_tape_5 (by decide) rfl ?_
  refine aw_aload (pc := 7) C dX9_tape_7 0 rfl ?_
  refine aw_ifnonnull_t (pc := 9) C 14 dX9_tape_9 (by decide) ?_
  refine aw_iload_n (pc := 14) C dX9_tape_14 rfl 3 rfl ?_
  refine aw_iconst (pc := 15) (v := (-1)) C dX9_tape_15 (by decide) ?_
  refine aw_icmp_ne (pc := 16) C 28 dX9_tape_16 (by decide) (fun c10 => ?_) (fun c10 => ?_)
  · refine aw_aload (pc := 19) C dX9_tape_19 0 rfl ?_
    refine aw_iconst (pc := 21) (v := (-1)) C dX9_tape_21 (by decide) ?_
    refine aw_iconst (pc := 22) (v := 0) C dX9_tape_22 (by decide) ?_
    refine aw_callVV (pc := 23) (R := rmX9_tape) (c := 7) (As := [.int (-1), .int 0]) (rest := []) (st := [.int 0, .int (-1), rf E v2]) (c' := 0) (s' := 0) C hE rfl (by decide) cal_X7_become ml_X9_282 rfl ⟨(Nat.le_of_ble_eq_true rfl), (Nat.le_of_ble_eq_true rfl)⟩ ⟨(Nat.le_of_ble_eq_true rfl), (Nat.le_of_ble_eq_true rfl)⟩ dX9_tape_23 (okX7_become E (kL K) v2 (-1) 0 h1) rfl (Nat.le_of_ble_eq_true rfl) rfl rfl (fun _u h3 eh3 => ?_)
    refine aw_iconst (pc := 26) (v := 1) C dX9_tape_26 (by decide) ?_
    exact aw_ireturn (pc := 27) C hr rfl hz0 rfl dX9_tape_27
  refine aw_iload_n (pc := 28) C dX9_tape_28 rfl 3 rfl ?_
  refine aw_iconst (pc := 29) (v := 0) C dX9_tape_29 (by decide) ?_
  refine aw_iconst (pc := 30) (v := 4) C dX9_tape_30 (by decide) ?_
  refine aw_callSI (pc := 31) (R := rmX9_tape) (As := [.int a2, .int 0, .int 4]) (rest := []) (st := [.int 4, .int 0, .int a2]) (c' := 0) (s' := 0) C hE cal_X9_between ml_X9_67 rfl ⟨(Nat.le_of_ble_eq_true rfl), (Nat.le_of_ble_eq_true rfl)⟩ ⟨(Nat.le_of_ble_eq_true rfl), (Nat.le_of_ble_eq_true rfl)⟩ dX9_tape_31 (okX9_between E (kL K) a2 0 4 h1) rfl (Nat.le_of_ble_eq_true rfl) rfl rfl (fun v5 h4 eh4 => ?_)
  refine aw_if_eq (pc := 34) C 43 dX9_tape_34 (by decide) (fun c9 => ?_) (fun c9 => ?_)
  · refine aw_bipush (pc := 43) (v := (-2)) C dX9_tape_43 (by decide) ?_
    exact aw_ireturn (pc := 45) C hr rfl hz0 rfl dX9_tape_45
  refine aw_iload_n (pc := 37) C dX9_tape_37 rfl 4 rfl ?_
  refine aw_bipush (pc := 38) (v := 60) C dX9_tape_38 (by decide) ?_
  refine aw_icmp_le (pc := 40) C 46 dX9_tape_40 (by decide) (fun c8 => ?_) (fun c8 => ?_)
  · refine aw_iload_n (pc := 46) C dX9_tape_46 rfl 4 rfl ?_
    refine aw_if_ge (pc := 47) C 53 dX9_tape_47 (by decide) (fun c7 => ?_) (fun c7 => ?_)
    · refine aw_aload (pc := 53) C dX9_tape_53 0 rfl ?_
      refine aw_iload_n (pc := 55) C dX9_tape_55 rfl 3 rfl ?_
      refine aw_iload_n (pc := 56) C dX9_tape_56 rfl 4 rfl ?_
      refine aw_callVV (pc := 57) (R := rmX9_tape) (c := 7) (As := [.int a2, .int a3]) (rest := []) (st := [.int a3, .int a2, rf E v2]) (c' := 0) (s' := 0) C hE rfl (by decide) cal_X7_become ml_X9_282 rfl ⟨(Nat.le_of_ble_eq_true rfl), (Nat.le_of_ble_eq_true rfl)⟩ ⟨(Nat.le_of_ble_eq_true rfl), (Nat.le_of_ble_eq_true rfl)⟩ dX9_tape_57 (okX7_become E (kL K) v2 a2 a3 h4) rfl (Nat.le_of_ble_eq_true rfl) rfl rfl (fun _u h6 eh6 => ?_)
      refine aw_iconst (pc := 60) (v := 1) C dX9_tape_60 (by decide) ?_
      exact aw_ireturn (pc := 61) C hr rfl hz0 rfl dX9_tape_61
    refine aw_bipush (pc := 50) (v := (-14)) C dX9_tape_50 (by decide) ?_
    exact aw_ireturn (pc := 52) C hr rfl hz0 rfl dX9_tape_52
  refine aw_bipush (pc := 43) (v := (-2)) C dX9_tape_43 (by decide) ?_
  exact aw_ireturn (pc := 45) C hr rfl hz0 rfl dX9_tape_45
def rmX7_lowestBits : Room := { frames := 0, cells := 0, slots := 0, locals := 0 }
set_option maxHeartbeats 4000000 in
set_option maxRecDepth 100000 in
theorem okX7_lowestBits (E : Ev) (l : Launch) (a0 : Nat) (a1 : Int64) (h0 : Mem) : AMet E l yX7_lowestBits cX7_lowestBits 3 (some (.long)) rmX7_lowestBits [rf E a0, .long a1] h0 rvJ (fX7_lowestBits a0 a1 h0) := by
  refine am_intro (plainFor_of_name (by decide +kernel)) (Nat.le_of_ble_eq_true rfl) (fun K hKl C hr hnm hz0 => ?_)
  replace C : CxOK K E RX7 cX7_lowestBits 3 := C
  have hE : E.1 + 1 ≤ (kS K).heap.size := by omega
  unfold fX7_lowestBits
  show Aw K E _ _ _ _ _ 0 [(0, rf E a0), (1, .long a1)] [] h0 _
  refine aw_aload_n (pc := 0) C dX7_lowestBits_0 rfl 0 rfl ?_
  refine aw_getI (pc := 1) C fl_X7_9 dX7_lowestBits_1 (fun v1 ev1 => ?_)
  refine aw_case 0 (fun c2 => ?_) (fun c2 => ?_)
  · refine aw_tableIn (pc := 4) C 0 40 c2 dX7_lowestBits_4 (by decide) (by decide) rfl (by decide) ?_
    refine aw_lload_n (pc := 40) C dX7_lowestBits_40 rfl 1 rfl ?_
    refine aw_l2i (pc := 41) C dX7_lowestBits_41 ?_
    refine aw_i2b (pc := 42) C dX7_lowestBits_42 ?_
    refine aw_i2l (pc := 43) C dX7_lowestBits_43 ?_
    exact aw_lreturn (pc := 44) C hr hz0 rfl dX7_lowestBits_44
  refine aw_case 1 (fun c3 => ?_) (fun c3 => ?_)
  · refine aw_tableIn (pc := 4) C 1 45 c3 dX7_lowestBits_4 (by decide) (by decide) rfl (by decide) ?_
    refine aw_lload_n (pc := 45) C dX7_lowestBits_45 rfl 1 rfl ?_
    refine aw_l2i (pc := 46) C dX7_lowestBits_46 ?_
    refine aw_i2s (pc := 47) C dX7_lowestBits_47 ?_
    refine aw_i2l (pc := 48) C dX7_lowestBits_48 ?_
    exact aw_lreturn (pc := 49) C hr hz0 rfl dX7_lowestBits_49
  refine aw_case 2 (fun c4 => ?_) (fun c4 => ?_)
  · refine aw_tableIn (pc := 4) C 2 50 c4 dX7_lowestBits_4 (by decide) (by decide) rfl (by decide) ?_
    refine aw_lload_n (pc := 50) C dX7_lowestBits_50 rfl 1 rfl ?_
    refine aw_l2i (pc := 51) C dX7_lowestBits_51 ?_
    refine aw_i2l (pc := 52) C dX7_lowestBits_52 ?_
    exact aw_lreturn (pc := 53) C hr hz0 rfl dX7_lowestBits_53
  refine aw_case 3 (fun c5 => ?_) (fun c5 => ?_)
  · refine aw_tableIn (pc := 4) C 3 66 c5 dX7_lowestBits_4 (by decide) (by decide) rfl (by decide) ?_
    refine aw_lload_n (pc := 66) C dX7_lowestBits_66 rfl 1 rfl ?_
    exact aw_lreturn (pc := 67) C hr hz0 rfl dX7_lowestBits_67
  refine aw_case 4 (fun c6 => ?_) (fun c6 => ?_)
  · refine aw_tableIn (pc := 4) C 4 54 c6 dX7_lowestBits_4 (by decide) (by decide) rfl (by decide) ?_
    refine aw_lload_n (pc := 54) C dX7_lowestBits_54 rfl 1 rfl ?_
    refine aw_lconst (pc := 55) (v := 0) C dX7_lowestBits_55 (by decide) ?_
    refine aw_lcmp (pc := 56) C dX7_lowestBits_56 ?_
    refine aw_if_eq (pc := 57) C 64 dX7_lowestBits_57 (by decide) (fun c7 => ?_) (fun c7 => ?_)
    · refine aw_lconst (pc := 64) (v := 0) C dX7_lowestBits_64 (by decide) ?_
      exact aw_lreturn (pc := 65) C hr hz0 rfl dX7_lowestBits_65
    refine aw_lconst (pc := 60) (v := 1) C dX7_lowestBits_60 (by decide) ?_
    refine aw_goto (pc := 61) C 65 dX7_lowestBits_61 (by decide) ?_
    exact aw_lreturn (pc := 65) C hr hz0 rfl dX7_lowestBits_65
  refine aw_tableOut (pc := 4) C 66 dX7_lowestBits_4 (by have qc2 := lv_neT c2 (show (0 : Int32).toInt = 0 by decide); have qc3 := lv_neT c3 (show (1 : Int32).toInt = 1 by decide); have qc4 := lv_neT c4 (show (2 : Int32).toInt = 2 by decide); have qc5 := lv_neT c5 (show (3 : Int32).toInt = 3 by decide); have qc6 := lv_neT c6 (show (4 : Int32).toInt = 4 by decide); omega) (by decide) ?_
  refine aw_lload_n (pc := 66) C dX7_lowestBits_66 rfl 1 rfl ?_
  exact aw_lreturn (pc := 67) C hr hz0 rfl dX7_lowestBits_67
def rmX7_set : Room := { frames := 1, cells := 0, slots := 0, locals := 22 }
set_option maxHeartbeats 4000000 in
set_option maxRecDepth 100000 in
theorem okX7_set (E : Ev) (l : Launch) (a0 : Nat) (a1 : Int32) (a2 : Int64) (h0 : Mem) : AMet E l yX7_set cX7_set 4 none rmX7_set [rf E a0, .int a1, .long a2] h0 rvV (fX7_set a0 a1 a2 h0) := by
  refine am_intro (plainFor_of_name (by decide +kernel)) (Nat.le_of_ble_eq_true rfl) (fun K hKl C hr hnm hz0 => ?_)
  replace C : CxOK K E RX7 cX7_set 4 := C
  have hE : E.1 + 1 ≤ (kS K).heap.size := by omega
  unfold fX7_set
  show Aw K E _ _ _ _ _ 0 [(0, rf E a0), (1, .int a1), (2, .long a2)] [] h0 _
  refine aw_aload_n (pc := 0) C dX7_set_0 rfl 0 rfl ?_
  refine aw_iload_n (pc := 1) C dX7_set_1 rfl 1 rfl ?_
  refine aw_callVI (pc := 2) (R := rmX7_set) (c := 7) (As := [.int a1]) (rest := []) (st := [.int a1, rf E a0]) (c' := 0) (s' := 0) C hE rfl (by decide) cal_X7_has ml_X7_37 rfl ⟨(Nat.le_of_ble_eq_true rfl), (Nat.le_of_ble_eq_true rfl)⟩ ⟨(Nat.le_of_ble_eq_true rfl), (Nat.le_of_ble_eq_true rfl)⟩ dX7_set_2 (okX7_has E (kL K) a0 a1 h0) rfl (Nat.le_of_ble_eq_true rfl) rfl rfl (fun v2 h1 eh1 => ?_)
  refine aw_if_eq (pc := 5) C 19 dX7_set_5 (by decide) (fun c7 => ?_) (fun c7 => ?_)
  · exact aw_return (pc := 19) C hr hz0 rfl dX7_set_19
  refine aw_aload_n (pc := 8) C dX7_set_8 rfl 0 rfl ?_
  refine aw_getR (pc := 9) C fl_X7_15 dX7_set_9 (fun v3 ev3 => ?_)
  refine aw_iload_n (pc := 12) C dX7_set_12 rfl 1 rfl ?_
  refine aw_aload_n (pc := 13) C dX7_set_13 rfl 0 rfl ?_
  refine aw_lload_n (pc := 14) C dX7_set_14 rfl 2 rfl ?_
  refine aw_callVJ (pc := 15) (R := rmX7_set) (c := 7) (As := [.long a2]) (rest := [.int a1, rf E v3]) (st := [.long a2, rf E a0, .int a1, rf E v3]) (c' := 0) (s' := 0) C hE rfl (by decide) cal_X7_lowestBits ml_X7_41 rfl ⟨(Nat.le_of_ble_eq_true rfl), (Nat.le_of_ble_eq_true rfl)⟩ ⟨(Nat.le_of_ble_eq_true rfl), (Nat.le_of_ble_eq_true rfl)⟩ dX7_set_15 (okX7_lowestBits E (kL K) a0 a2 h1) rfl (Nat.le_of_ble_eq_true rfl) rfl rfl (fun v5 h4 eh4 => ?_)
  refine aw_lastore (pc := 18) C dX7_set_18 (fun h6 eh6 => ?_)
  exact aw_return (pc := 19) C hr hz0 rfl dX7_set_19
def rmX9_item : Room := { frames := 2, cells := 0, slots := 0, locals := 45 }
set_option maxHeartbeats 4000000 in
set_option maxRecDepth 100000 in
theorem okX9_item (E : Ev) (l : Launch) (a0 : Nat) (a1 : Int32) (a2 : Int32) (a3 : Int64) (h0 : Mem) : AMet E l yX9_item cX9_item 6 (some (.int)) rmX9_item [rf E a0, .int a1, .int a2, .long a3] h0 rvI (fX9_item a0 a1 a2 a3 h0) := by
  refine am_intro (plainFor_of_name (by decide +kernel)) (Nat.le_of_ble_eq_true rfl) (fun K hKl C hr hnm hz0 => ?_)
  replace C : CxOK K E RX9 cX9_item 6 := C
  have hE : E.1 + 1 ≤ (kS K).heap.size := by omega
  unfold fX9_item
  show Aw K E _ _ _ _ _ 0 [(0, rf E a0), (1, .int a1), (2, .int a2), (3, .long a3)] [] h0 _
  refine aw_aload_n (pc := 0) C dX9_item_0 rfl 0 rfl ?_
  refine aw_iload_n (pc := 1) C dX9_item_1 rfl 1 rfl ?_
  refine aw_callVR (pc := 2) (R := rmX9_item) (c := 9) (As := [.int a1]) (rest := []) (st := [.int a1, rf E a0]) (c' := 0) (s' := 0) C hE rfl (by decide) cal_X9_tapeAt ml_X9_265 rfl ⟨(Nat.le_of_ble_eq_true rfl), (Nat.le_of_ble_eq_true rfl)⟩ ⟨(Nat.le_of_ble_eq_true rfl), (Nat.le_of_ble_eq_true rfl)⟩ dX9_item_2 (okX9_tapeAt E (kL K) a0 a1 h0) rfl (Nat.le_of_ble_eq_true rfl) rfl rfl (fun h1 eh1 => ?_) (fun v2 h1 ev2 nv2 => ?_)
  · refine aw_itt rfl ?_
    refine aw_astoreN (pc := 5) (L' := [(5, .null), (0, rf E a0), (1, .int a1), (2, .int a2), (3, .long a3)]) C dX9_item_5 (by decide) rfl ?_
    refine aw_aloadN (pc := 7) C dX9_item_7 0 rfl ?_
    refine aw_ifnonnull_f (pc := 9) C dX9_item_9 ?_
    refine aw_iconst (pc := 12) (v := (-1)) C dX9_item_12 (by decide) ?_
    exact aw_ireturn (pc := 13) C hr rfl hz0 rfl dX9_item_13
  refine aw_itf nv2 ?_
  refine aw_astore (pc := 5) (L' := [(5, rf E v2), (0, rf E a0), (1, .int a1), (2, .int a2), (3, .long a3)]) C dX9_item_5 (by decide) rfl ?_
  refine aw_aload (pc := 7) C dX9_item_7 0 rfl ?_
  refine aw_ifnonnull_t (pc := 9) C 14 dX9_item_9 (by decide) ?_
  refine aw_aload (pc := 14) C dX9_item_14 0 rfl ?_
  refine aw_callVI (pc := 16) (R := rmX9_item) (c := 7) (As := []) (rest := []) (st := [rf E v2]) (c' := 0) (s' := 0) C hE rfl (by decide) cal_X7_holdsNothing ml_X9_269 rfl ⟨(Nat.le_of_ble_eq_true rfl), (Nat.le_of_ble_eq_true rfl)⟩ ⟨(Nat.le_of_ble_eq_true rfl), (Nat.le_of_ble_eq_true rfl)⟩ dX9_item_16 (okX7_holdsNothing E (kL K) v2 h1) rfl (Nat.le_of_ble_eq_true rfl) rfl rfl (fun v4 h3 eh3 => ?_)
  refine aw_if_eq (pc := 19) C 25 dX9_item_19 (by decide) (fun c9 => ?_) (fun c9 => ?_)
  · refine aw_aload (pc := 25) C dX9_item_25 0 rfl ?_
    refine aw_iload_n (pc := 27) C dX9_item_27 rfl 3 rfl ?_
    refine aw_callVI (pc := 28) (R := rmX9_item) (c := 7) (As := [.int a2]) (rest := []) (st := [.int a2, rf E v2]) (c' := 0) (s' := 0) C hE rfl (by decide) cal_X7_has ml_X9_276 rfl ⟨(Nat.le_of_ble_eq_true rfl), (Nat.le_of_ble_eq_true rfl)⟩ ⟨(Nat.le_of_ble_eq_true rfl), (Nat.le_of_ble_eq_true rfl)⟩ dX9_item_28 (okX7_has E (kL K) v2 a2 h3) rfl (Nat.le_of_ble_eq_true rfl) rfl rfl (fun v6 h5 eh5 => ?_)
    refine aw_if_ne (pc := 31) C 37 dX9_item_31 (by decide) (fun c8 => ?_) (fun c8 => ?_)
    · refine aw_bipush (pc := 34) (v := (-13)) C dX9_item_34 (by decide) ?_
      exact aw_ireturn (pc := 36) C hr rfl hz0 rfl dX9_item_36
    refine aw_aload (pc := 37) C dX9_item_37 0 rfl ?_
    refine aw_iload_n (pc := 39) C dX9_item_39 rfl 3 rfl ?_
    refine aw_lload_n (pc := 40) C dX9_item_40 rfl 4 rfl ?_
    refine aw_callVV (pc := 41) (R := rmX9_item) (c := 7) (As := [.int a2, .long a3]) (rest := []) (st := [.long a3, .int a2, rf E v2]) (c' := 0) (s' := 0) C hE rfl (by decide) cal_X7_set ml_X9_285 rfl ⟨(Nat.le_of_ble_eq_true rfl), (Nat.le_of_ble_eq_true rfl)⟩ ⟨(Nat.le_of_ble_eq_true rfl), (Nat.le_of_ble_eq_true rfl)⟩ dX9_item_41 (okX7_set E (kL K) v2 a2 a3 h5) rfl (Nat.le_of_ble_eq_true rfl) rfl rfl (fun _u h7 eh7 => ?_)
    refine aw_iconst (pc := 44) (v := 1) C dX9_item_44 (by decide) ?_
    exact aw_ireturn (pc := 45) C hr rfl hz0 rfl dX9_item_45
  refine aw_bipush (pc := 22) (v := (-11)) C dX9_item_22 (by decide) ?_
  exact aw_ireturn (pc := 24) C hr rfl hz0 rfl dX9_item_24
def rmX9_peek : Room := { frames := 2, cells := 0, slots := 0, locals := 42 }
set_option maxHeartbeats 4000000 in
set_option maxRecDepth 100000 in
theorem okX9_peek (E : Ev) (l : Launch) (a0 : Nat) (a1 : Int32) (a2 : Int32) (h0 : Mem) : AMet E l yX9_peek cX9_peek 4 (some (.long)) rmX9_peek [rf E a0, .int a1, .int a2] h0 rvJ (fX9_peek a0 a1 a2 h0) := by
  refine am_intro (plainFor_of_name (by decide +kernel)) (Nat.le_of_ble_eq_true rfl) (fun K hKl C hr hnm hz0 => ?_)
  replace C : CxOK K E RX9 cX9_peek 4 := C
  have hE : E.1 + 1 ≤ (kS K).heap.size := by omega
  unfold fX9_peek
  show Aw K E _ _ _ _ _ 0 [(0, rf E a0), (1, .int a1), (2, .int a2)] [] h0 _
  refine aw_aload_n (pc := 0) C dX9_peek_0 rfl 0 rfl ?_
  refine aw_iload_n (pc := 1) C dX9_peek_1 rfl 1 rfl ?_
  refine aw_callVR (pc := 2) (R := rmX9_peek) (c := 9) (As := [.int a1]) (rest := []) (st := [.int a1, rf E a0]) (c' := 0) (s' := 0) C hE rfl (by decide) cal_X9_tapeAt ml_X9_265 rfl ⟨(Nat.le_of_ble_eq_true rfl), (Nat.le_of_ble_eq_true rfl)⟩ ⟨(Nat.le_of_ble_eq_true rfl), (Nat.le_of_ble_eq_true rfl)⟩ dX9_peek_2 (okX9_tapeAt E (kL K) a0 a1 h0) rfl (Nat.le_of_ble_eq_true rfl) rfl rfl (fun h1 eh1 => ?_) (fun v2 h1 ev2 nv2 => ?_)
  · refine aw_itt rfl ?_
    refine aw_astore_nN (pc := 5) (L' := [(3, .null), (0, rf E a0), (1, .int a1), (2, .int a2)]) C dX9_peek_5 rfl (by decide) rfl ?_
    refine aw_aload_nN (pc := 6) C dX9_peek_6 rfl 0 rfl ?_
    refine aw_ifnull_t (pc := 7) C 26 dX9_peek_7 (by decide) ?_
    refine aw_ldc2 (pc := 26) (v := (-9223372036854775808)) C kc_X9_163 dX9_peek_26 ?_
    exact aw_lreturn (pc := 29) C hr hz0 rfl dX9_peek_29
  refine aw_itf nv2 ?_
  refine aw_astore_n (pc := 5) (L' := [(3, rf E v2), (0, rf E a0), (1, .int a1), (2, .int a2)]) C dX9_peek_5 rfl (by decide) rfl ?_
  refine aw_aload_n (pc := 6) C dX9_peek_6 rfl 0 rfl ?_
  refine aw_ifnull_f (pc := 7) C dX9_peek_7 ?_
  refine aw_aload_n (pc := 10) C dX9_peek_10 rfl 0 rfl ?_
  refine aw_iload_n (pc := 11) C dX9_peek_11 rfl 3 rfl ?_
  refine aw_callVI (pc := 12) (R := rmX9_peek) (c := 7) (As := [.int a2]) (rest := []) (st := [.int a2, rf E v2]) (c' := 0) (s' := 0) C hE rfl (by decide) cal_X7_has ml_X9_276 rfl ⟨(Nat.le_of_ble_eq_true rfl), (Nat.le_of_ble_eq_true rfl)⟩ ⟨(Nat.le_of_ble_eq_true rfl), (Nat.le_of_ble_eq_true rfl)⟩ dX9_peek_12 (okX7_has E (kL K) v2 a2 h1) rfl (Nat.le_of_ble_eq_true rfl) rfl rfl (fun v4 h3 eh3 => ?_)
  refine aw_if_eq (pc := 15) C 26 dX9_peek_15 (by decide) (fun c7 => ?_) (fun c7 => ?_)
  · refine aw_ldc2 (pc := 26) (v := (-9223372036854775808)) C kc_X9_163 dX9_peek_26 ?_
    exact aw_lreturn (pc := 29) C hr hz0 rfl dX9_peek_29
  refine aw_aload_n (pc := 18) C dX9_peek_18 rfl 0 rfl ?_
  refine aw_iload_n (pc := 19) C dX9_peek_19 rfl 3 rfl ?_
  refine aw_callVJ (pc := 20) (R := rmX9_peek) (c := 7) (As := [.int a2]) (rest := []) (st := [.int a2, rf E v2]) (c' := 0) (s' := 0) C hE rfl (by decide) cal_X7_get ml_X9_277 rfl ⟨(Nat.le_of_ble_eq_true rfl), (Nat.le_of_ble_eq_true rfl)⟩ ⟨(Nat.le_of_ble_eq_true rfl), (Nat.le_of_ble_eq_true rfl)⟩ dX9_peek_20 (okX7_get E (kL K) v2 a2 h3) rfl (Nat.le_of_ble_eq_true rfl) rfl rfl (fun v6 h5 eh5 => ?_)
  refine aw_goto (pc := 23) C 29 dX9_peek_23 (by decide) ?_
  exact aw_lreturn (pc := 29) C hr hz0 rfl dX9_peek_29
def rmX7_hasAll : Room := { frames := 0, cells := 0, slots := 0, locals := 0 }
set_option maxHeartbeats 4000000 in
set_option maxRecDepth 100000 in
theorem okX7_hasAll (E : Ev) (l : Launch) (a0 : Nat) (a1 : Int32) (a2 : Int32) (h0 : Mem) : AMet E l yX7_hasAll cX7_hasAll 3 (some (.boolean)) rmX7_hasAll [rf E a0, .int a1, .int a2] h0 rvI (fX7_hasAll a0 a1 a2 h0) := by
  refine am_intro (plainFor_of_name (by decide +kernel)) (Nat.le_of_ble_eq_true rfl) (fun K hKl C hr hnm hz0 => ?_)
  replace C : CxOK K E RX7 cX7_hasAll 3 := C
  have hE : E.1 + 1 ≤ (kS K).heap.size := by omega
  unfold fX7_hasAll
  show Aw K E _ _ _ _ _ 0 [(0, rf E a0), (1, .int a1), (2, .int a2)] [] h0 _
  refine aw_iload_n (pc := 0) C dX7_hasAll_0 rfl 1 rfl ?_
  refine aw_if_lt (pc := 1) C 22 dX7_hasAll_1 (by decide) (fun c4 => ?_) (fun c4 => ?_)
  · refine aw_iconst (pc := 22) (v := 0) C dX7_hasAll_22 (by decide) ?_
    exact aw_ireturn (pc := 23) C hr rfl hz0 rfl dX7_hasAll_23
  refine aw_iload_n (pc := 4) C dX7_hasAll_4 rfl 2 rfl ?_
  refine aw_if_lt (pc := 5) C 22 dX7_hasAll_5 (by decide) (fun c3 => ?_) (fun c3 => ?_)
  · refine aw_iconst (pc := 22) (v := 0) C dX7_hasAll_22 (by decide) ?_
    exact aw_ireturn (pc := 23) C hr rfl hz0 rfl dX7_hasAll_23
  refine aw_iload_n (pc := 8) C dX7_hasAll_8 rfl 1 rfl ?_
  refine aw_aload_n (pc := 9) C dX7_hasAll_9 rfl 0 rfl ?_
  refine aw_getI (pc := 10) C fl_X7_19 dX7_hasAll_10 (fun v1 ev1 => ?_)
  refine aw_iload_n (pc := 13) C dX7_hasAll_13 rfl 2 rfl ?_
  refine aw_isub (pc := 14) C dX7_hasAll_14 ?_
  refine aw_icmp_gt (pc := 15) C 22 dX7_hasAll_15 (by decide) (fun c2 => ?_) (fun c2 => ?_)
  · refine aw_iconst (pc := 22) (v := 0) C dX7_hasAll_22 (by decide) ?_
    exact aw_ireturn (pc := 23) C hr rfl hz0 rfl dX7_hasAll_23
  refine aw_iconst (pc := 18) (v := 1) C dX7_hasAll_18 (by decide) ?_
  refine aw_goto (pc := 19) C 23 dX7_hasAll_19 (by decide) ?_
  exact aw_ireturn (pc := 23) C hr rfl hz0 rfl dX7_hasAll_23
def rmX9_shift : Room := { frames := 1, cells := 0, slots := 0, locals := 80 }
set_option maxHeartbeats 4000000 in
set_option maxRecDepth 100000 in
theorem okX9_shift (E : Ev) (l : Launch) (a0 : Nat) (a1 : Int32) (a2 : Int32) (a3 : Int32) (a4 : Int32) (a5 : Int32) (h0 : Mem) : AMet E l yX9_shift cX9_shift 8 (some (.int)) rmX9_shift [rf E a0, .int a1, .int a2, .int a3, .int a4, .int a5] h0 rvI (fX9_shift a0 a1 a2 a3 a4 a5 h0) := by
  refine am_intro (plainFor_of_name (by decide +kernel)) (Nat.le_of_ble_eq_true rfl) (fun K hKl C hr hnm hz0 => ?_)
  replace C : CxOK K E RX9 cX9_shift 8 := C
  have hE : E.1 + 1 ≤ (kS K).heap.size := by omega
  unfold fX9_shift
  show Aw K E _ _ _ _ _ 0 [(0, rf E a0), (1, .int a1), (2, .int a2), (3, .int a3), (4, .int a4), (5, .int a5)] [] h0 _
  refine aw_aload_n (pc := 0) C dX9_shift_0 rfl 0 rfl ?_
  refine aw_iload_n (pc := 1) C dX9_shift_1 rfl 1 rfl ?_
  refine aw_callVR (pc := 2) (R := rmX9_shift) (c := 9) (As := [.int a1]) (rest := []) (st := [.int a1, rf E a0]) (c' := 0) (s' := 0) C hE rfl (by decide) cal_X9_tapeAt ml_X9_265 rfl ⟨(Nat.le_of_ble_eq_true rfl), (Nat.le_of_ble_eq_true rfl)⟩ ⟨(Nat.le_of_ble_eq_true rfl), (Nat.le_of_ble_eq_true rfl)⟩ dX9_shift_2 (okX9_tapeAt E (kL K) a0 a1 h0) rfl (Nat.le_of_ble_eq_true rfl) rfl rfl (fun h1 eh1 => ?_) (fun v2 h1 ev2 nv2 => ?_)
  · refine aw_itt rfl ?_
    refine aw_astoreN (pc := 5) (L' := [(6, .null), (0, rf E a0), (1, .int a1), (2, .int a2), (3, .int a3), (4, .int a4), (5, .int a5)]) C dX9_shift_5 (by decide) rfl ?_
    refine aw_aload_n (pc := 7) C dX9_shift_7 rfl 1 rfl ?_
    refine aw_iload_n (pc := 8) C dX9_shift_8 rfl 4 rfl ?_
    refine aw_callVR (pc := 9) (R := rmX9_shift) (c := 9) (As := [.int a3]) (rest := []) (st := [.int a3, rf E a0]) (c' := 0) (s' := 0) C hE rfl (by decide) cal_X9_tapeAt ml_X9_265 rfl ⟨(Nat.le_of_ble_eq_true rfl), (Nat.le_of_ble_eq_true rfl)⟩ ⟨(Nat.le_of_ble_eq_true rfl), (Nat.le_of_ble_eq_true rfl)⟩ dX9_shift_9 (okX9_tapeAt E (kL K) a0 a3 h1) rfl (Nat.le_of_ble_eq_true rfl) rfl rfl (fun h3 eh3 => ?_) (fun v4 h3 ev4 nv4 => ?_)
    · refine aw_itt rfl ?_
      refine aw_astoreN (pc := 12) (L' := [(7, .null), (6, .null), (0, rf E a0), (1, .int a1), (2, .int a2), (3, .int a3), (4, .int a4), (5, .int a5)]) C dX9_shift_12 (by decide) rfl ?_
      refine aw_aloadN (pc := 14) C dX9_shift_14 1 rfl ?_
      refine aw_ifnull_t (pc := 16) C 24 dX9_shift_16 (by decide) ?_
      refine aw_iconst (pc := 24) (v := (-1)) C dX9_shift_24 (by decide) ?_
      exact aw_ireturn (pc := 25) C hr rfl hz0 rfl dX9_shift_25
    refine aw_itf nv4 ?_
    refine aw_astore (pc := 12) (L' := [(7, rf E v4), (6, .null), (0, rf E a0), (1, .int a1), (2, .int a2), (3, .int a3), (4, .int a4), (5, .int a5)]) C dX9_shift_12 (by decide) rfl ?_
    refine aw_aloadN (pc := 14) C dX9_shift_14 1 rfl ?_
    refine aw_ifnull_t (pc := 16) C 24 dX9_shift_16 (by decide) ?_
    refine aw_iconst (pc := 24) (v := (-1)) C dX9_shift_24 (by decide) ?_
    exact aw_ireturn (pc := 25) C hr rfl hz0 rfl dX9_shift_25
  refine aw_itf nv2 ?_
  refine aw_astore (pc := 5) (L' := [(6, rf E v2), (0, rf E a0), (1, .int a1), (2, .int a2), (3, .int a3), (4, .int a4), (5, .int a5)]) C dX9_shift_5 (by decide) rfl ?_
  refine aw_aload_n (pc := 7) C dX9_shift_7 rfl 1 rfl ?_
  refine aw_iload_n (pc := 8) C dX9_shift_8 rfl 4 rfl ?_
  refine aw_callVR (pc := 9) (R := rmX9_shift) (c := 9) (As := [.int a3]) (rest := []) (st := [.int a3, rf E a0]) (c' := 0) (s' := 0) C hE rfl (by decide) cal_X9_tapeAt ml_X9_265 rfl ⟨(Nat.le_of_ble_eq_true rfl), (Nat.le_of_ble_eq_true rfl)⟩ ⟨(Nat.le_of_ble_eq_true rfl), (Nat.le_of_ble_eq_true rfl)⟩ dX9_shift_9 (okX9_tapeAt E (kL K) a0 a3 h1) rfl (Nat.le_of_ble_eq_true rfl) rfl rfl (fun h5 eh5 => ?_) (fun v6 h5 ev6 nv6 => ?_)
  · refine aw_itt rfl ?_
    refine aw_astoreN (pc := 12) (L' := [(7, .null), (6, rf E v2), (0, rf E a0), (1, .int a1), (2, .int a2), (3, .int a3), (4, .int a4), (5, .int a5)]) C dX9_shift_12 (by decide) rfl ?_
    refine aw_aload (pc := 14) C dX9_shift_14 1 rfl ?_
    refine aw_ifnull_f (pc := 16) C dX9_shift_16 ?_
    refine aw_aloadN (pc := 19) C dX9_shift_19 0 rfl ?_
    refine aw_ifnonnull_f (pc := 21) C dX9_shift_21 ?_
    refine aw_iconst (pc := 24) (v := (-1)) C dX9_shift_24 (by decide) ?_
    exact aw_ireturn (pc := 25) C hr rfl hz0 rfl dX9_shift_25
  refine aw_itf nv6 ?_
  refine aw_astore (pc := 12) (L' := [(7, rf E v6), (6, rf E v2), (0, rf E a0), (1, .int a1), (2, .int a2), (3, .int a3), (4, .int a4), (5, .int a5)]) C dX9_shift_12 (by decide) rfl ?_
  refine aw_aload (pc := 14) C dX9_shift_14 1 rfl ?_
  refine aw_ifnull_f (pc := 16) C dX9_shift_16 ?_
  refine aw_aload (pc := 19) C dX9_shift_19 0 rfl ?_
  refine aw_ifnonnull_t (pc := 21) C 26 dX9_shift_21 (by decide) ?_
  refine aw_aload (pc := 26) C dX9_shift_26 1 rfl ?_
  refine aw_callVI (pc := 28) (R := rmX9_shift) (c := 7) (As := []) (rest := []) (st := [rf E v2]) (c' := 0) (s' := 0) C hE rfl (by decide) cal_X7_holdsNothing ml_X9_269 rfl ⟨(Nat.le_of_ble_eq_true rfl), (Nat.le_of_ble_eq_true rfl)⟩ ⟨(Nat.le_of_ble_eq_true rfl), (Nat.le_of_ble_eq_true rfl)⟩ dX9_shift_28 (okX7_holdsNothing E (kL K) v2 h5) rfl (Nat.le_of_ble_eq_true rfl) rfl rfl (fun v8 h7 eh7 => ?_)
  refine aw_if_ne (pc := 31) C 42 dX9_shift_31 (by decide) (fun c24 => ?_) (fun c24 => ?_)
  · refine aw_aload (pc := 34) C dX9_shift_34 0 rfl ?_
    refine aw_callVI (pc := 36) (R := rmX9_shift) (c := 7) (As := []) (rest := []) (st := [rf E v6]) (c' := 0) (s' := 0) C hE rfl (by decide) cal_X7_holdsNothing ml_X9_269 rfl ⟨(Nat.le_of_ble_eq_true rfl), (Nat.le_of_ble_eq_true rfl)⟩ ⟨(Nat.le_of_ble_eq_true rfl), (Nat.le_of_ble_eq_true rfl)⟩ dX9_shift_36 (okX7_holdsNothing E (kL K) v6 h7) rfl (Nat.le_of_ble_eq_true rfl) rfl rfl (fun v10 h9 eh9 => ?_)
    refine aw_if_eq (pc := 39) C 45 dX9_shift_39 (by decide) (fun c23 => ?_) (fun c23 => ?_)
    · refine aw_aload (pc := 45) C dX9_shift_45 1 rfl ?_
      refine aw_getI (pc := 47) C fl_X9_273 dX9_shift_47 (fun v11 ev11 => ?_)
      refine aw_aload (pc := 50) C dX9_shift_50 0 rfl ?_
      refine aw_getI (pc := 52) C fl_X9_273 dX9_shift_52 (fun v12 ev12 => ?_)
      refine aw_icmp_eq (pc := 55) C 61 dX9_shift_55 (by decide) (fun c22 => ?_) (fun c22 => ?_)
      · refine aw_aload (pc := 61) C dX9_shift_61 1 rfl ?_
        refine aw_iload_n (pc := 63) C dX9_shift_63 rfl 4 rfl ?_
        refine aw_iload (pc := 64) C dX9_shift_64 7 rfl ?_
        refine aw_callVI (pc := 66) (R := rmX9_shift) (c := 7) (As := [.int a2, .int a5]) (rest := []) (st := [.int a5, .int a2, rf E v2]) (c' := 0) (s' := 0) C hE rfl (by decide) cal_X7_hasAll ml_X9_288 rfl ⟨(Nat.le_of_ble_eq_true rfl), (Nat.le_of_ble_eq_true rfl)⟩ ⟨(Nat.le_of_ble_eq_true rfl), (Nat.le_of_ble_eq_true rfl)⟩ dX9_shift_66 (okX7_hasAll E (kL K) v2 a2 a5 h9) rfl (Nat.le_of_ble_eq_true rfl) rfl rfl (fun v14 h13 eh13 => ?_)
        refine aw_if_eq (pc := 69) C 84 dX9_shift_69 (by decide) (fun c21 => ?_) (fun c21 => ?_)
        · refine aw_bipush (pc := 84) (v := (-13)) C dX9_shift_84 (by decide) ?_
          exact aw_ireturn (pc := 86) C hr rfl hz0 rfl dX9_shift_86
        refine aw_aload (pc := 72) C dX9_shift_72 0 rfl ?_
        refine aw_iload (pc := 74) C dX9_shift_74 6 rfl ?_
        refine aw_iload (pc := 76) C dX9_shift_76 7 rfl ?_
        refine aw_callVI (pc := 78) (R := rmX9_shift) (c := 7) (As := [.int a4, .int a5]) (rest := []) (st := [.int a5, .int a4, rf E v6]) (c' := 0) (s' := 0) C hE rfl (by decide) cal_X7_hasAll ml_X9_288 rfl ⟨(Nat.le_of_ble_eq_true rfl), (Nat.le_of_ble_eq_true rfl)⟩ ⟨(Nat.le_of_ble_eq_true rfl), (Nat.le_of_ble_eq_true rfl)⟩ dX9_shift_78 (okX7_hasAll E (kL K) v6 a4 a5 h13) rfl (Nat.le_of_ble_eq_true rfl) rfl rfl (fun v16 h15 eh15 => ?_)
        refine aw_if_ne (pc := 81) C 87 dX9_shift_81 (by decide) (fun c20 => ?_) (fun c20 => ?_)
        · refine aw_bipush (pc := 84) (v := (-13)) C dX9_shift_84 (by decide) ?_
          exact aw_ireturn (pc := 86) C hr rfl hz0 rfl dX9_shift_86
        refine aw_aload (pc := 87) C dX9_shift_87 1 rfl ?_
        refine aw_getR (pc := 89) C fl_X9_292 dX9_shift_89 (fun v17 ev17 => ?_)
        refine aw_iload_n (pc := 92) C dX9_shift_92 rfl 4 rfl ?_
        refine aw_aload (pc := 93) C dX9_shift_93 0 rfl ?_
        refine aw_getR (pc := 95) C fl_X9_292 dX9_shift_95 (fun v18 ev18 => ?_)
        refine aw_iload (pc := 98) C dX9_shift_98 6 rfl ?_
        refine aw_iload (pc := 100) C dX9_shift_100 7 rfl ?_
        refine aw_copyJ (pc := 102) C ml_X9_296 ac_1 ac_2 ac_3 (Nat.le_of_ble_eq_true rfl) (by decide +kernel) dX9_shift_102 (fun h19 eh19 => ?_)
        refine aw_iload (pc := 105) C dX9_shift_105 7 rfl ?_
        exact aw_ireturn (pc := 107) C hr rfl hz0 rfl dX9_shift_107
      refine aw_bipush (pc := 58) (v := (-12)) C dX9_shift_58 (by decide) ?_
      exact aw_ireturn (pc := 60) C hr rfl hz0 rfl dX9_shift_60
    refine aw_bipush (pc := 42) (v := (-11)) C dX9_shift_42 (by decide) ?_
    exact aw_ireturn (pc := 44) C hr rfl hz0 rfl dX9_shift_44
  refine aw_bipush (pc := 42) (v := (-11)) C dX9_shift_42 (by decide) ?_
  exact aw_ireturn (pc := 44) C hr rfl hz0 rfl dX9_shift_44
