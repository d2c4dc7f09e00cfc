def rmX4_add : Room := { frames := 0, cells := 0, slots := 0, locals := 0 }
set_option maxHeartbeats 4000000 in
set_option maxRecDepth 100000 in
theorem okX4_add (E : Ev) (l : Launch) (a0 : Nat) (a1 : Int32) (a2 : Int32) (a3 : Int32) (h0 : Mem) : AMet E l yX4_add cX4_add 5 (some (.int)) rmX4_add [rf E a0, .int a1, .int a2, .int a3] h0 rvI (fX4_add a0 a1 a2 a3 h0) := by
  refine am_intro (plainFor_of_name (by decide +kernel)) (Nat.le_of_ble_eq_true rfl) (fun K hKl C hr hnm hz0 => ?_)
  replace C : CxOK K E RX4 cX4_add 5 := C
  have hE : E.1 + 1 ≤ (kS K).heap.size := by omega
  unfold fX4_add
  show Aw K E _ _ _ _ _ 0 [(0, rf E a0), (1, .int a1), (2, .int a2), (3, .int a3)] [] h0 _
  refine aw_aload_n (pc := 0) C dX4_add_0 rfl 0 rfl ?_
  refine aw_getI (pc := 1) C fl_X4_9 dX4_add_1 (fun v1 ev1 => ?_)
  refine aw_iconst (pc := 4) (v := 3) C dX4_add_4 (by decide) ?_
  refine aw_imul (pc := 5) C dX4_add_5 ?_
  refine aw_nmI (pc := 6) (fun v2 ev2 => ?_)
  refine aw_istore (pc := 6) (L' := [(4, .int v2), (0, rf E a0), (1, .int a1), (2, .int a2), (3, .int a3)]) C dX4_add_6 (by decide) rfl ?_
  refine aw_iload (pc := 8) C dX4_add_8 0 rfl ?_
  refine aw_if_lt (pc := 10) C 25 dX4_add_10 (by decide) (fun c15 => ?_) (fun c15 => ?_)
  · refine aw_bipush (pc := 25) (v := (-4)) C dX4_add_25 (by decide) ?_
    exact aw_ireturn (pc := 27) C hr rfl hz0 rfl dX4_add_27
  refine aw_iload (pc := 13) C dX4_add_13 0 rfl ?_
  refine aw_iconst (pc := 15) (v := 2) C dX4_add_15 (by decide) ?_
  refine aw_iadd (pc := 16) C dX4_add_16 ?_
  refine aw_aload_n (pc := 17) C dX4_add_17 rfl 1 rfl ?_
  refine aw_getR (pc := 18) C fl_X4_21 dX4_add_18 (fun v3 ev3 => ?_)
  refine aw_arraylength (pc := 21) C dX4_add_21 (fun v4 ev4 => ?_)
  refine aw_icmp_lt (pc := 22) C 28 dX4_add_22 (by decide) (fun c14 => ?_) (fun c14 => ?_)
  · refine aw_aload_n (pc := 28) C dX4_add_28 rfl 1 rfl ?_
    refine aw_getR (pc := 29) C fl_X4_21 dX4_add_29 (fun v5 ev5 => ?_)
    refine aw_iload (pc := 32) C dX4_add_32 0 rfl ?_
    refine aw_iload_n (pc := 34) C dX4_add_34 rfl 2 rfl ?_
    refine aw_iastore (pc := 35) C dX4_add_35 (fun h6 eh6 => ?_)
    refine aw_aload_n (pc := 36) C dX4_add_36 rfl 1 rfl ?_
    refine aw_getR (pc := 37) C fl_X4_21 dX4_add_37 (fun v7 ev7 => ?_)
    refine aw_iload (pc := 40) C dX4_add_40 0 rfl ?_
    refine aw_iconst (pc := 42) (v := 1) C dX4_add_42 (by decide) ?_
    refine aw_iadd (pc := 43) C dX4_add_43 ?_
    refine aw_iload_n (pc := 44) C dX4_add_44 rfl 3 rfl ?_
    refine aw_iastore (pc := 45) C dX4_add_45 (fun h8 eh8 => ?_)
    refine aw_aload_n (pc := 46) C dX4_add_46 rfl 1 rfl ?_
    refine aw_getR (pc := 47) C fl_X4_21 dX4_add_47 (fun v9 ev9 => ?_)
    refine aw_iload (pc := 50) C dX4_add_50 0 rfl ?_
    refine aw_iconst (pc := 52) (v := 2) C dX4_add_52 (by decide) ?_
    refine aw_iadd (pc := 53) C dX4_add_53 ?_
    refine aw_iload_n (pc := 54) C dX4_add_54 rfl 4 rfl ?_
    refine aw_iastore (pc := 55) C dX4_add_55 (fun h10 eh10 => ?_)
    refine aw_aload_n (pc := 56) C dX4_add_56 rfl 1 rfl ?_
    refine aw_dup (pc := 57) C rfl dX4_add_57 ?_
    refine aw_getI (pc := 58) C fl_X4_9 dX4_add_58 (fun v11 ev11 => ?_)
    refine aw_iconst (pc := 61) (v := 1) C dX4_add_61 (by decide) ?_
    refine aw_iadd (pc := 62) C dX4_add_62 ?_
    refine aw_putI (pc := 63) C fw_X4_9 rfl rfl dX4_add_63 (fun h12 eh12 => ?_)
    refine aw_aload_n (pc := 66) C dX4_add_66 rfl 1 rfl ?_
    refine aw_getI (pc := 67) C fl_X4_9 dX4_add_67 (fun v13 ev13 => ?_)
    exact aw_ireturn (pc := 70) C hr rfl hz0 rfl dX4_add_70
  refine aw_bipush (pc := 25) (v := (-4)) C dX4_add_25 (by decide) ?_
  exact aw_ireturn (pc := 27) C hr rfl hz0 rfl dX4_add_27
def rmX5_takeClause : Room := { frames := 3, cells := 0, slots := 0, locals := 62 }
set_option maxHeartbeats 4000000 in
set_option maxRecDepth 100000 in
theorem okX5_takeClause (E : Ev) (l : Launch) (a0 : Nat) (h0 : Mem) : AMet E l yX5_takeClause cX5_takeClause 2 (some (.boolean)) rmX5_takeClause [rf E a0] h0 rvI (fX5_takeClause a0 h0) := by
  refine am_intro (plainFor_of_name (by decide +kernel)) (Nat.le_of_ble_eq_true rfl) (fun K hKl C hr hnm hz0 => ?_)
  replace C : CxOK K E RX5 cX5_takeClause 2 := C
  have hE : E.1 + 1 ≤ (kS K).heap.size := by omega
  unfold fX5_takeClause
  show Aw K E _ _ _ _ _ 0 [(0, rf E a0)] [] h0 _
  refine aw_aload_n (pc := 0) C dX5_takeClause_0 rfl 0 rfl ?_
  refine aw_callVI (pc := 1) (R := rmX5_takeClause) (c := 5) (As := []) (rest := []) (st := [rf E a0]) (c' := 0) (s' := 0) C hE rfl (by decide) cal_X5_next ml_X5_43 rfl ⟨(Nat.le_of_ble_eq_true rfl), (Nat.le_of_ble_eq_true rfl)⟩ ⟨(Nat.le_of_ble_eq_true rfl), (Nat.le_of_ble_eq_true rfl)⟩ dX5_takeClause_1 (okX5_next E (kL K) a0 h0) rfl (Nat.le_of_ble_eq_true rfl) rfl rfl (fun v2 h1 eh1 => ?_)
  refine aw_istore_n (pc := 4) (L' := [(1, .int v2), (0, rf E a0)]) C dX5_takeClause_4 rfl (by decide) rfl ?_
  refine aw_aload_n (pc := 5) C dX5_takeClause_5 rfl 1 rfl ?_
  refine aw_iconst (pc := 6) (v := 0) C dX5_takeClause_6 (by decide) ?_
  refine aw_putI (pc := 7) C fw_X5_29 rfl rfl dX5_takeClause_7 (fun h3 eh3 => ?_)
  refine aw_aload_n (pc := 10) C dX5_takeClause_10 rfl 1 rfl ?_
  refine aw_iconst (pc := 11) (v := 0) C dX5_takeClause_11 (by decide) ?_
  refine aw_putI (pc := 12) C fw_X5_32 rfl rfl dX5_takeClause_12 (fun h4 eh4 => ?_)
  refine aw_iload_n (pc := 15) C dX5_takeClause_15 rfl 0 rfl ?_
  refine aw_callSI (pc := 16) (R := rmX5_takeClause) (As := [.int v2]) (rest := []) (st := [.int v2]) (c' := 0) (s' := 0) C hE cal_X5_isKind ml_X5_46 rfl ⟨(Nat.le_of_ble_eq_true rfl), (Nat.le_of_ble_eq_true rfl)⟩ ⟨(Nat.le_of_ble_eq_true rfl), (Nat.le_of_ble_eq_true rfl)⟩ dX5_takeClause_16 (okX5_isKind E (kL K) v2 h4) rfl (Nat.le_of_ble_eq_true rfl) rfl rfl (fun v6 h5 eh5 => ?_)
  refine aw_if_ne (pc := 19) C 24 dX5_takeClause_19 (by decide) (fun c32 => ?_) (fun c32 => ?_)
  · refine aw_iconst (pc := 22) (v := 0) C dX5_takeClause_22 (by decide) ?_
    exact aw_ireturn (pc := 23) C hr rfl hz0 rfl dX5_takeClause_23
  refine aw_aload_n (pc := 24) C dX5_takeClause_24 rfl 1 rfl ?_
  refine aw_dup (pc := 25) C rfl dX5_takeClause_25 ?_
  refine aw_getI (pc := 26) C fl_X5_26 dX5_takeClause_26 (fun v7 ev7 => ?_)
  refine aw_iconst (pc := 29) (v := 1) C dX5_takeClause_29 (by decide) ?_
  refine aw_iadd (pc := 30) C dX5_takeClause_30 ?_
  refine aw_putI (pc := 31) C fw_X5_26 rfl rfl dX5_takeClause_31 (fun h8 eh8 => ?_)
  refine aw_iload_n (pc := 34) C dX5_takeClause_34 rfl 0 rfl ?_
  refine aw_callSI (pc := 35) (R := rmX5_takeClause) (As := [.int v2]) (rest := []) (st := [.int v2]) (c' := 0) (s' := 0) C hE cal_X5_hasDigit ml_X5_50 rfl ⟨(Nat.le_of_ble_eq_true rfl), (Nat.le_of_ble_eq_true rfl)⟩ ⟨(Nat.le_of_ble_eq_true rfl), (Nat.le_of_ble_eq_true rfl)⟩ dX5_takeClause_35 (okX5_hasDigit E (kL K) v2 h8) rfl (Nat.le_of_ble_eq_true rfl) rfl rfl (fun v10 h9 eh9 => ?_)
  refine aw_jn (σ := Mem) 50 (fun s => [(0, rf E a0), (1, .int v2)]) (fun s => []) (fun s => s) (fun s => ?_) (fun k12 jk13 => ?_)
  · generalize s = h11
    show Aw K E _ _ _ _ _ 50 [(0, rf E a0), (1, .int v2)] [] h11 _
    refine aw_iload_n (pc := 50) C dX5_takeClause_50 rfl 1 rfl ?_
    refine aw_callSI (pc := 51) (R := rmX5_takeClause) (As := [.int v2]) (rest := []) (st := [.int v2]) (c' := 0) (s' := 0) C hE cal_X5_hasNumber ml_X5_56 rfl ⟨(Nat.le_of_ble_eq_true rfl), (Nat.le_of_ble_eq_true rfl)⟩ ⟨(Nat.le_of_ble_eq_true rfl), (Nat.le_of_ble_eq_true rfl)⟩ dX5_takeClause_51 (okX5_hasNumber E (kL K) v2 h11) rfl (Nat.le_of_ble_eq_true rfl) rfl rfl (fun v15 h14 eh14 => ?_)
    refine aw_jn (σ := Mem) 66 (fun s => [(0, rf E a0), (1, .int v2)]) (fun s => []) (fun s => s) (fun s => ?_) (fun k17 jk18 => ?_)
    · generalize s = h16
      show Aw K E _ _ _ _ _ 66 [(0, rf E a0), (1, .int v2)] [] h16 _
      refine aw_aload_n (pc := 66) C dX5_takeClause_66 rfl 0 rfl ?_
      refine aw_getR (pc := 67) C fl_X5_18 dX5_takeClause_67 (fun v19 ev19 => ?_)
      refine aw_iload_n (pc := 70) C dX5_takeClause_70 rfl 1 rfl ?_
      refine aw_aload_n (pc := 71) C dX5_takeClause_71 rfl 0 rfl ?_
      refine aw_getI (pc := 72) C fl_X5_29 dX5_takeClause_72 (fun v20 ev20 => ?_)
      refine aw_aload_n (pc := 75) C dX5_takeClause_75 rfl 0 rfl ?_
      refine aw_getI (pc := 76) C fl_X5_32 dX5_takeClause_76 (fun v21 ev21 => ?_)
      refine aw_callVI (pc := 79) (R := rmX5_takeClause) (c := 4) (As := [.int v2, .int v20, .int v21]) (rest := []) (st := [.int v21, .int v20, .int v2, rf E v19]) (c' := 0) (s' := 0) C hE rfl (by decide) cal_X4_add ml_X5_62 rfl ⟨(Nat.le_of_ble_eq_true rfl), (Nat.le_of_ble_eq_true rfl)⟩ ⟨(Nat.le_of_ble_eq_true rfl), (Nat.le_of_ble_eq_true rfl)⟩ dX5_takeClause_79 (okX4_add E (kL K) v19 v2 v20 v21 h16) rfl (Nat.le_of_ble_eq_true rfl) rfl rfl (fun v23 h22 eh22 => ?_)
      refine aw_pop (pc := 82) C rfl dX5_takeClause_82 ?_
      refine aw_iconst (pc := 83) (v := 1) C dX5_takeClause_83 (by decide) ?_
      exact aw_ireturn (pc := 84) C hr rfl hz0 rfl dX5_takeClause_84
    refine aw_if_eq (pc := 54) C 66 dX5_takeClause_54 (by decide) (fun c27 => ?_) (fun c27 => ?_)
    · exact aw_sub (L' := [(0, rf E a0), (1, .int v2)]) [0, 1] rfl (jk18 h14)
    refine aw_aload_n (pc := 57) C dX5_takeClause_57 rfl 0 rfl ?_
    refine aw_callVI (pc := 58) (R := rmX5_takeClause) (c := 5) (As := []) (rest := []) (st := [rf E a0]) (c' := 0) (s' := 0) C hE rfl (by decide) cal_X5_takeNumber ml_X5_59 rfl ⟨(Nat.le_of_ble_eq_true rfl), (Nat.le_of_ble_eq_true rfl)⟩ ⟨(Nat.le_of_ble_eq_true rfl), (Nat.le_of_ble_eq_true rfl)⟩ dX5_takeClause_58 (okX5_takeNumber E (kL K) a0 h14) rfl (Nat.le_of_ble_eq_true rfl) rfl rfl (fun v25 h24 eh24 => ?_)
    refine aw_if_ne (pc := 61) C 66 dX5_takeClause_61 (by decide) (fun c26 => ?_) (fun c26 => ?_)
    · refine aw_iconst (pc := 64) (v := 0) C dX5_takeClause_64 (by decide) ?_
      exact aw_ireturn (pc := 65) C hr rfl hz0 rfl dX5_takeClause_65
    exact aw_sub (L' := [(0, rf E a0), (1, .int v2)]) [0, 1] rfl (jk18 h24)
  refine aw_if_eq (pc := 38) C 50 dX5_takeClause_38 (by decide) (fun c31 => ?_) (fun c31 => ?_)
  · exact aw_sub (L' := [(0, rf E a0), (1, .int v2)]) [1, 0] rfl (jk13 h9)
  refine aw_aload_n (pc := 41) C dX5_takeClause_41 rfl 1 rfl ?_
  refine aw_callVI (pc := 42) (R := rmX5_takeClause) (c := 5) (As := []) (rest := []) (st := [rf E a0]) (c' := 0) (s' := 0) C hE rfl (by decide) cal_X5_takeDigit ml_X5_53 rfl ⟨(Nat.le_of_ble_eq_true rfl), (Nat.le_of_ble_eq_true rfl)⟩ ⟨(Nat.le_of_ble_eq_true rfl), (Nat.le_of_ble_eq_true rfl)⟩ dX5_takeClause_42 (okX5_takeDigit E (kL K) a0 h9) rfl (Nat.le_of_ble_eq_true rfl) rfl rfl (fun v29 h28 eh28 => ?_)
  refine aw_if_ne (pc := 45) C 50 dX5_takeClause_45 (by decide) (fun c30 => ?_) (fun c30 => ?_)
  · refine aw_iconst (pc := 48) (v := 0) C dX5_takeClause_48 (by decide) ?_
    exact aw_ireturn (pc := 49) C hr rfl hz0 rfl dX5_takeClause_49
  exact aw_sub (L' := [(0, rf E a0), (1, .int v2)]) [1, 0] rfl (jk13 h28)
def rmX5_findFault : Room := { frames := 4, cells := 0, slots := 0, locals := 83 }
set_option maxHeartbeats 4000000 in
set_option maxRecDepth 100000 in
theorem okX5_findFault (E : Ev) (l : Launch) (a0 : Nat) (h0 : Mem) : AMet E l yX5_findFault cX5_findFault 2 (some (.int)) rmX5_findFault [rf E a0] h0 rvI (fX5_findFault a0 h0) := by
  refine am_intro (plainFor_of_name (by decide +kernel)) (Nat.le_of_ble_eq_true rfl) (fun K hKl C hr hnm hz0 => ?_)
  replace C : CxOK K E RX5 cX5_findFault 2 := C
  have hE : E.1 + 1 ≤ (kS K).heap.size := by omega
  unfold fX5_findFault
  show Aw K E _ _ _ _ _ 0 [(0, rf E a0)] [] h0 _
  refine aw_aload_n (pc := 0) C dX5_findFault_0 rfl 0 rfl ?_
  refine aw_getR (pc := 1) C fl_X5_18 dX5_findFault_1 (fun v1 ev1 => ?_)
  refine aw_callVI (pc := 4) (R := rmX5_findFault) (c := 4) (As := []) (rest := []) (st := [rf E v1]) (c' := 0) (s' := 0) C hE rfl (by decide) cal_X4_empty ml_X5_35 rfl ⟨(Nat.le_of_ble_eq_true rfl), (Nat.le_of_ble_eq_true rfl)⟩ ⟨(Nat.le_of_ble_eq_true rfl), (Nat.le_of_ble_eq_true rfl)⟩ dX5_findFault_4 (okX4_empty E (kL K) v1 h0) rfl (Nat.le_of_ble_eq_true rfl) rfl rfl (fun v3 h2 eh2 => ?_)
  refine aw_pop (pc := 7) C rfl dX5_findFault_7 ?_
  refine aw_aload_n (pc := 8) C dX5_findFault_8 rfl 0 rfl ?_
  refine aw_iconst (pc := 9) (v := 0) C dX5_findFault_9 (by decide) ?_
  refine aw_putI (pc := 10) C fw_X5_26 rfl rfl dX5_findFault_10 (fun h4 eh4 => ?_)
  refine aw_iconst (pc := 13) (v := 0) C dX5_findFault_13 (by decide) ?_
  refine aw_istore_n (pc := 14) (L' := [(1, .int 0), (0, rf E a0)]) C dX5_findFault_14 rfl (by decide) rfl ?_
  refine aw_sub (L' := [(0, rf E a0), (1, .int 0)]) [1, 0] rfl ?_
  refine aw_loop (pc := 15) (σ := Int32 × Mem) (fun s => [(0, rf E a0), (1, .int s.1)]) (fun s => s.2) _ (fun k7 ih8 s => ?_) _ _
  obtain ⟨v5, h6⟩ := s
  show Aw K E _ _ _ _ _ 15 [(0, rf E a0), (1, .int v5)] [] h6 _
  refine aw_iload_n (pc := 15) C dX5_findFault_15 rfl 1 rfl ?_
  refine aw_bipush (pc := 16) (v := 12) C dX5_findFault_16 (by decide) ?_
  refine aw_icmp_ge (pc := 18) C 79 dX5_findFault_18 (by decide) (fun c26 => ?_) (fun c26 => ?_)
  · refine aw_aload_n (pc := 79) C dX5_findFault_79 rfl 0 rfl ?_
    refine aw_getI (pc := 80) C fl_X5_26 dX5_findFault_80 (fun v25 ev25 => ?_)
    exact aw_ireturn (pc := 83) C hr rfl hz0 rfl dX5_findFault_83
  refine aw_aload_n (pc := 21) C dX5_findFault_21 rfl 0 rfl ?_
  refine aw_callVI (pc := 22) (R := rmX5_findFault) (c := 5) (As := []) (rest := []) (st := [rf E a0]) (c' := 0) (s' := 0) C hE rfl (by decide) cal_X5_takeClause ml_X5_39 rfl ⟨(Nat.le_of_ble_eq_true rfl), (Nat.le_of_ble_eq_true rfl)⟩ ⟨(Nat.le_of_ble_eq_true rfl), (Nat.le_of_ble_eq_true rfl)⟩ dX5_findFault_22 (okX5_takeClause E (kL K) a0 h6) rfl (Nat.le_of_ble_eq_true rfl) rfl rfl (fun v10 h9 eh9 => ?_)
  refine aw_if_ne (pc := 25) C 33 dX5_findFault_25 (by decide) (fun c24 => ?_) (fun c24 => ?_)
  · refine aw_aload_n (pc := 28) C dX5_findFault_28 rfl 0 rfl ?_
    refine aw_getI (pc := 29) C fl_X5_26 dX5_findFault_29 (fun v11 ev11 => ?_)
    exact aw_ireturn (pc := 32) C hr rfl hz0 rfl dX5_findFault_32
  refine aw_aload_n (pc := 33) C dX5_findFault_33 rfl 0 rfl ?_
  refine aw_callVI (pc := 34) (R := rmX5_findFault) (c := 5) (As := []) (rest := []) (st := [rf E a0]) (c' := 0) (s' := 0) C hE rfl (by decide) cal_X5_next ml_X5_43 rfl ⟨(Nat.le_of_ble_eq_true rfl), (Nat.le_of_ble_eq_true rfl)⟩ ⟨(Nat.le_of_ble_eq_true rfl), (Nat.le_of_ble_eq_true rfl)⟩ dX5_findFault_34 (okX5_next E (kL K) a0 h9) rfl (Nat.le_of_ble_eq_true rfl) rfl rfl (fun v13 h12 eh12 => ?_)
  refine aw_iconst (pc := 37) (v := (-1)) C dX5_findFault_37 (by decide) ?_
  refine aw_icmp_ne (pc := 38) C 43 dX5_findFault_38 (by decide) (fun c23 => ?_) (fun c23 => ?_)
  · refine aw_iconst (pc := 41) (v := (-1)) C dX5_findFault_41 (by decide) ?_
    exact aw_ireturn (pc := 42) C hr rfl hz0 rfl dX5_findFault_42
  refine aw_aload_n (pc := 43) C dX5_findFault_43 rfl 0 rfl ?_
  refine aw_callVI (pc := 44) (R := rmX5_findFault) (c := 5) (As := []) (rest := []) (st := [rf E a0]) (c' := 0) (s' := 0) C hE rfl (by decide) cal_X5_next ml_X5_43 rfl ⟨(Nat.le_of_ble_eq_true rfl), (Nat.le_of_ble_eq_true rfl)⟩ ⟨(Nat.le_of_ble_eq_true rfl), (Nat.le_of_ble_eq_true rfl)⟩ dX5_findFault_44 (okX5_next E (kL K) a0 h12) rfl (Nat.le_of_ble_eq_true rfl) rfl rfl (fun v15 h14 eh14 => ?_)
  refine aw_bipush (pc := 47) (v := 59) C dX5_findFault_47 (by decide) ?_
  refine aw_icmp_ne (pc := 49) C 58 dX5_findFault_49 (by decide) (fun c22 => ?_) (fun c22 => ?_)
  · refine aw_iload_n (pc := 52) C dX5_findFault_52 rfl 1 rfl ?_
    refine aw_bipush (pc := 53) (v := 11) C dX5_findFault_53 (by decide) ?_
    refine aw_icmp_ne (pc := 55) C 63 dX5_findFault_55 (by decide) (fun c20 => ?_) (fun c20 => ?_)
    · refine aw_aload_n (pc := 58) C dX5_findFault_58 rfl 0 rfl ?_
      refine aw_getI (pc := 59) C fl_X5_26 dX5_findFault_59 (fun v16 ev16 => ?_)
      exact aw_ireturn (pc := 62) C hr rfl hz0 rfl dX5_findFault_62
    refine aw_aload_n (pc := 63) C dX5_findFault_63 rfl 0 rfl ?_
    refine aw_dup (pc := 64) C rfl dX5_findFault_64 ?_
    refine aw_getI (pc := 65) C fl_X5_26 dX5_findFault_65 (fun v17 ev17 => ?_)
    refine aw_iconst (pc := 68) (v := 1) C dX5_findFault_68 (by decide) ?_
    refine aw_iadd (pc := 69) C dX5_findFault_69 ?_
    refine aw_putI (pc := 70) C fw_X5_26 rfl rfl dX5_findFault_70 (fun h18 eh18 => ?_)
    refine aw_iincN (pc := 73) (L1 := [(0, rf E a0)]) (k := 1) C dX5_findFault_73 1 rfl (by decide) (by decide) rfl (fun v19 ev19 => ?_)
    refine aw_goto (pc := 76) C 15 dX5_findFault_76 (by decide) ?_
    exact aw_sub (L' := [(0, rf E a0), (1, .int v19)]) [1, 0] rfl (ih8 (v19, h18))
  refine aw_aload_n (pc := 58) C dX5_findFault_58 rfl 0 rfl ?_
  refine aw_getI (pc := 59) C fl_X5_26 dX5_findFault_59 (fun v21 ev21 => ?_)
  exact aw_ireturn (pc := 62) C hr rfl hz0 rfl dX5_findFault_62
def rmX4_cell : Room := { frames := 0, cells := 0, slots := 0, locals := 0 }
set_option maxHeartbeats 4000000 in
set_option maxRecDepth 100000 in
theorem okX4_cell (E : Ev) (l : Launch) (a0 : Nat) (a1 : Int32) (a2 : Int32) (h0 : Mem) : AMet E l yX4_cell cX4_cell 4 (some (.int)) rmX4_cell [rf E a0, .int a1, .int a2] h0 rvI (fX4_cell a0 a1 a2 h0) := by
  refine am_intro (plainFor_of_name (by decide +kernel)) (Nat.le_of_ble_eq_true rfl) (fun K hKl C hr hnm hz0 => ?_)
  replace C : CxOK K E RX4 cX4_cell 4 := C
  have hE : E.1 + 1 ≤ (kS K).heap.size := by omega
  unfold fX4_cell
  show Aw K E _ _ _ _ _ 0 [(0, rf E a0), (1, .int a1), (2, .int a2)] [] h0 _
  refine aw_iload_n (pc := 0) C dX4_cell_0 rfl 1 rfl ?_
  refine aw_iconst (pc := 1) (v := 3) C dX4_cell_1 (by decide) ?_
  refine aw_imul (pc := 2) C dX4_cell_2 ?_
  refine aw_iload_n (pc := 3) C dX4_cell_3 rfl 2 rfl ?_
  refine aw_iadd (pc := 4) C dX4_cell_4 ?_
  refine aw_nmI (pc := 5) (fun v1 ev1 => ?_)
  refine aw_istore_n (pc := 5) (L' := [(3, .int v1), (0, rf E a0), (1, .int a1), (2, .int a2)]) C dX4_cell_5 rfl (by decide) rfl ?_
  refine aw_iload_n (pc := 6) C dX4_cell_6 rfl 2 rfl ?_
  refine aw_if_lt (pc := 7) C 36 dX4_cell_7 (by decide) (fun c9 => ?_) (fun c9 => ?_)
  · refine aw_iconst (pc := 36) (v := 0) C dX4_cell_36 (by decide) ?_
    exact aw_ireturn (pc := 37) C hr rfl hz0 rfl dX4_cell_37
  refine aw_iload_n (pc := 10) C dX4_cell_10 rfl 2 rfl ?_
  refine aw_aload_n (pc := 11) C dX4_cell_11 rfl 1 rfl ?_
  refine aw_getI (pc := 12) C fl_X4_9 dX4_cell_12 (fun v2 ev2 => ?_)
  refine aw_icmp_ge (pc := 15) C 36 dX4_cell_15 (by decide) (fun c8 => ?_) (fun c8 => ?_)
  · refine aw_iconst (pc := 36) (v := 0) C dX4_cell_36 (by decide) ?_
    exact aw_ireturn (pc := 37) C hr rfl hz0 rfl dX4_cell_37
  refine aw_iload_n (pc := 18) C dX4_cell_18 rfl 0 rfl ?_
  refine aw_aload_n (pc := 19) C dX4_cell_19 rfl 1 rfl ?_
  refine aw_getR (pc := 20) C fl_X4_21 dX4_cell_20 (fun v3 ev3 => ?_)
  refine aw_arraylength (pc := 23) C dX4_cell_23 (fun v4 ev4 => ?_)
  refine aw_icmp_ge (pc := 24) C 36 dX4_cell_24 (by decide) (fun c7 => ?_) (fun c7 => ?_)
  · refine aw_iconst (pc := 36) (v := 0) C dX4_cell_36 (by decide) ?_
    exact aw_ireturn (pc := 37) C hr rfl hz0 rfl dX4_cell_37
  refine aw_aload_n (pc := 27) C dX4_cell_27 rfl 1 rfl ?_
  refine aw_getR (pc := 28) C fl_X4_21 dX4_cell_28 (fun v5 ev5 => ?_)
  refine aw_iload_n (pc := 31) C dX4_cell_31 rfl 0 rfl ?_
  refine aw_iaload (pc := 32) C dX4_cell_32 (fun v6 ev6 => ?_)
  refine aw_goto (pc := 33) C 37 dX4_cell_33 (by decide) ?_
  exact aw_ireturn (pc := 37) C hr rfl hz0 rfl dX4_cell_37
def rmX4_second : Room := { frames := 1, cells := 0, slots := 0, locals := 23 }
set_option maxHeartbeats 4000000 in
set_option maxRecDepth 100000 in
theorem okX4_second (E : Ev) (l : Launch) (a0 : Nat) (a1 : Int32) (h0 : Mem) : AMet E l yX4_second cX4_second 2 (some (.int)) rmX4_second [rf E a0, .int a1] h0 rvI (fX4_second a0 a1 h0) := by
  refine am_intro (plainFor_of_name (by decide +kernel)) (Nat.le_of_ble_eq_true rfl) (fun K hKl C hr hnm hz0 => ?_)
  replace C : CxOK K E RX4 cX4_second 2 := C
  have hE : E.1 + 1 ≤ (kS K).heap.size := by omega
  unfold fX4_second
  show Aw K E _ _ _ _ _ 0 [(0, rf E a0), (1, .int a1)] [] h0 _
  refine aw_aload_n (pc := 0) C dX4_second_0 rfl 0 rfl ?_
  refine aw_iload_n (pc := 1) C dX4_second_1 rfl 1 rfl ?_
  refine aw_iconst (pc := 2) (v := 1) C dX4_second_2 (by decide) ?_
  refine aw_callVI (pc := 3) (R := rmX4_second) (c := 4) (As := [.int a1, .int 1]) (rest := []) (st := [.int 1, .int a1, rf E a0]) (c' := 0) (s' := 0) C hE rfl (by decide) cal_X4_cell ml_X4_34 rfl ⟨(Nat.le_of_ble_eq_true rfl), (Nat.le_of_ble_eq_true rfl)⟩ ⟨(Nat.le_of_ble_eq_true rfl), (Nat.le_of_ble_eq_true rfl)⟩ dX4_second_3 (okX4_cell E (kL K) a0 a1 1 h0) rfl (Nat.le_of_ble_eq_true rfl) rfl rfl (fun v2 h1 eh1 => ?_)
  exact aw_ireturn (pc := 6) C hr rfl hz0 rfl dX4_second_6
def rmX4_third : Room := { frames := 1, cells := 0, slots := 0, locals := 23 }
set_option maxHeartbeats 4000000 in
set_option maxRecDepth 100000 in
theorem okX4_third (E : Ev) (l : Launch) (a0 : Nat) (a1 : Int32) (h0 : Mem) : AMet E l yX4_third cX4_third 2 (some (.int)) rmX4_third [rf E a0, .int a1] h0 rvI (fX4_third a0 a1 h0) := by
  refine am_intro (plainFor_of_name (by decide +kernel)) (Nat.le_of_ble_eq_true rfl) (fun K hKl C hr hnm hz0 => ?_)
  replace C : CxOK K E RX4 cX4_third 2 := C
  have hE : E.1 + 1 ≤ (kS K).heap.size := by omega
  unfold fX4_third
  show Aw K E _ _ _ _ _ 0 [(0, rf E a0), (1, .int a1)] [] h0 _
  refine aw_aload_n (pc := 0) C dX4_third_0 rfl 0 rfl ?_
  refine aw_iload_n (pc := 1) C dX4_third_1 rfl 1 rfl ?_
  refine aw_iconst (pc := 2) (v := 2) C dX4_third_2 (by decide) ?_
  refine aw_callVI (pc := 3) (R := rmX4_third) (c := 4) (As := [.int a1, .int 2]) (rest := []) (st := [.int 2, .int a1, rf E a0]) (c' := 0) (s' := 0) C hE rfl (by decide) cal_X4_cell ml_X4_34 rfl ⟨(Nat.le_of_ble_eq_true rfl), (Nat.le_of_ble_eq_true rfl)⟩ ⟨(Nat.le_of_ble_eq_true rfl), (Nat.le_of_ble_eq_true rfl)⟩ dX4_third_3 (okX4_cell E (kL K) a0 a1 2 h0) rfl (Nat.le_of_ble_eq_true rfl) rfl rfl (fun v2 h1 eh1 => ?_)
  exact aw_ireturn (pc := 6) C hr rfl hz0 rfl dX4_third_6
def rmX4_first : Room := { frames := 1, cells := 0, slots := 0, locals := 23 }
set_option maxHeartbeats 4000000 in
set_option maxRecDepth 100000 in
theorem okX4_first (E : Ev) (l : Launch) (a0 : Nat) (a1 : Int32) (h0 : Mem) : AMet E l yX4_first cX4_first 2 (some (.int)) rmX4_first [rf E a0, .int a1] h0 rvI (fX4_first a0 a1 h0) := by
  refine am_intro (plainFor_of_name (by decide +kernel)) (Nat.le_of_ble_eq_true rfl) (fun K hKl C hr hnm hz0 => ?_)
  replace C : CxOK K E RX4 cX4_first 2 := C
  have hE : E.1 + 1 ≤ (kS K).heap.size := by omega
  unfold fX4_first
  show Aw K E _ _ _ _ _ 0 [(0, rf E a0), (1, .int a1)] [] h0 _
  refine aw_aload_n (pc := 0) C dX4_first_0 rfl 0 rfl ?_
  refine aw_iload_n (pc := 1) C dX4_first_1 rfl 1 rfl ?_
  refine aw_iconst (pc := 2) (v := 0) C dX4_first_2 (by decide) ?_
  refine aw_callVI (pc := 3) (R := rmX4_first) (c := 4) (As := [.int a1, .int 0]) (rest := []) (st := [.int 0, .int a1, rf E a0]) (c' := 0) (s' := 0) C hE rfl (by decide) cal_X4_cell ml_X4_34 rfl ⟨(Nat.le_of_ble_eq_true rfl), (Nat.le_of_ble_eq_true rfl)⟩ ⟨(Nat.le_of_ble_eq_true rfl), (Nat.le_of_ble_eq_true rfl)⟩ dX4_first_3 (okX4_cell E (kL K) a0 a1 0 h0) rfl (Nat.le_of_ble_eq_true rfl) rfl rfl (fun v2 h1 eh1 => ?_)
  exact aw_ireturn (pc := 6) C hr rfl hz0 rfl dX4_first_6
def rmX9_clauseAnswer : Room := { frames := 5, cells := 0, slots := 0, locals := 119 }
set_option maxHeartbeats 4000000 in
set_option maxRecDepth 100000 in
theorem okX9_clauseAnswer (E : Ev) (l : Launch) (a0 : Nat) (a1 : Int32) (h0 : Mem) : AMet E l yX9_clauseAnswer cX9_clauseAnswer 4 (some (.int)) rmX9_clauseAnswer [rf E a0, .int a1] h0 rvI (fX9_clauseAnswer a0 a1 h0) := by
  refine am_intro (plainFor_of_name (by decide +kernel)) (Nat.le_of_ble_eq_true rfl) (fun K hKl C hr hnm hz0 => ?_)
  replace C : CxOK K E RX9 cX9_clauseAnswer 4 := C
  have hE : E.1 + 1 ≤ (kS K).heap.size := by omega
  unfold fX9_clauseAnswer
  show Aw K E _ _ _ _ _ 0 [(0, rf E a0), (1, .int a1)] [] h0 _
  refine aw_aload_n (pc := 0) C dX9_clauseAnswer_0 rfl 0 rfl ?_
  refine aw_getR (pc := 1) C fl_X9_56 dX9_clauseAnswer_1 (fun v1 ev1 => ?_)
  refine aw_getR (pc := 4) C fl_X9_129 dX9_clauseAnswer_4 (fun v2 ev2 => ?_)
  refine aw_iload_n (pc := 7) C dX9_clauseAnswer_7 rfl 1 rfl ?_
  refine aw_callVI (pc := 8) (R := rmX9_clauseAnswer) (c := 4) (As := [.int a1]) (rest := []) (st := [.int a1, rf E v2]) (c' := 0) (s' := 0) C hE rfl (by decide) cal_X4_second ml_X9_262 rfl ⟨(Nat.le_of_ble_eq_true rfl), (Nat.le_of_ble_eq_true rfl)⟩ ⟨(Nat.le_of_ble_eq_true rfl), (Nat.le_of_ble_eq_true rfl)⟩ dX9_clauseAnswer_8 (okX4_second E (kL K) v2 a1 h0) rfl (Nat.le_of_ble_eq_true rfl) rfl rfl (fun v4 h3 eh3 => ?_)
  refine aw_istore_n (pc := 11) (L' := [(2, .int v4), (0, rf E a0), (1, .int a1)]) C dX9_clauseAnswer_11 rfl (by decide) rfl ?_
  refine aw_aload_n (pc := 12) C dX9_clauseAnswer_12 rfl 1 rfl ?_
  refine aw_getR (pc := 13) C fl_X9_56 dX9_clauseAnswer_13 (fun v5 ev5 => ?_)
  refine aw_getR (pc := 16) C fl_X9_129 dX9_clauseAnswer_16 (fun v6 ev6 => ?_)
  refine aw_iload_n (pc := 19) C dX9_clauseAnswer_19 rfl 2 rfl ?_
  refine aw_callVI (pc := 20) (R := rmX9_clauseAnswer) (c := 4) (As := [.int a1]) (rest := []) (st := [.int a1, rf E v6]) (c' := 0) (s' := 0) C hE rfl (by decide) cal_X4_third ml_X9_323 rfl ⟨(Nat.le_of_ble_eq_true rfl), (Nat.le_of_ble_eq_true rfl)⟩ ⟨(Nat.le_of_ble_eq_true rfl), (Nat.le_of_ble_eq_true rfl)⟩ dX9_clauseAnswer_20 (okX4_third E (kL K) v6 a1 h3) rfl (Nat.le_of_ble_eq_true rfl) rfl rfl (fun v8 h7 eh7 => ?_)
  refine aw_istore_n (pc := 23) (L' := [(3, .int v8), (2, .int v4), (0, rf E a0), (1, .int a1)]) C dX9_clauseAnswer_23 rfl (by decide) rfl ?_
  refine aw_aload_n (pc := 24) C dX9_clauseAnswer_24 rfl 2 rfl ?_
  refine aw_getR (pc := 25) C fl_X9_56 dX9_clauseAnswer_25 (fun v9 ev9 => ?_)
  refine aw_getR (pc := 28) C fl_X9_129 dX9_clauseAnswer_28 (fun v10 ev10 => ?_)
  refine aw_iload_n (pc := 31) C dX9_clauseAnswer_31 rfl 3 rfl ?_
  refine aw_callVI (pc := 32) (R := rmX9_clauseAnswer) (c := 4) (As := [.int a1]) (rest := []) (st := [.int a1, rf E v10]) (c' := 0) (s' := 0) C hE rfl (by decide) cal_X4_first ml_X9_259 rfl ⟨(Nat.le_of_ble_eq_true rfl), (Nat.le_of_ble_eq_true rfl)⟩ ⟨(Nat.le_of_ble_eq_true rfl), (Nat.le_of_ble_eq_true rfl)⟩ dX9_clauseAnswer_32 (okX4_first E (kL K) v10 a1 h7) rfl (Nat.le_of_ble_eq_true rfl) rfl rfl (fun v12 h11 eh11 => ?_)
  refine aw_case 61 (fun c13 => ?_) (fun c13 => ?_)
  · refine aw_lookup (pc := 35) (off := 62) C 97 dX9_clauseAnswer_35 (by decide +kernel) (by rw [c13]; decide +kernel) (by decide) ?_
    refine aw_aload_n (pc := 97) C dX9_clauseAnswer_97 rfl 2 rfl ?_
    refine aw_iload_n (pc := 98) C dX9_clauseAnswer_98 rfl 0 rfl ?_
    refine aw_callVI (pc := 99) (R := rmX9_clauseAnswer) (c := 9) (As := [.int v8]) (rest := []) (st := [.int v8, rf E a0]) (c' := 0) (s' := 0) C hE rfl (by decide) cal_X9_equal ml_X9_331 rfl ⟨(Nat.le_of_ble_eq_true rfl), (Nat.le_of_ble_eq_true rfl)⟩ ⟨(Nat.le_of_ble_eq_true rfl), (Nat.le_of_ble_eq_true rfl)⟩ dX9_clauseAnswer_99 (okX9_equal E (kL K) a0 v8 h11) rfl (Nat.le_of_ble_eq_true rfl) rfl rfl (fun v15 h14 eh14 => ?_)
    exact aw_ireturn (pc := 102) C hr rfl hz0 rfl dX9_clauseAnswer_102
  refine aw_case 97 (fun c16 => ?_) (fun c16 => ?_)
  · refine aw_lookup (pc := 35) (off := 55) C 90 dX9_clauseAnswer_35 (by decide +kernel) (by rw [c16]; decide +kernel) (by decide) ?_
    refine aw_aload_n (pc := 90) C dX9_clauseAnswer_90 rfl 2 rfl ?_
    refine aw_iload_n (pc := 91) C dX9_clauseAnswer_91 rfl 1 rfl ?_
    refine aw_iload_n (pc := 92) C dX9_clauseAnswer_92 rfl 0 rfl ?_
    refine aw_callVI (pc := 93) (R := rmX9_clauseAnswer) (c := 9) (As := [.int v4, .int v8]) (rest := []) (st := [.int v8, .int v4, rf E a0]) (c' := 0) (s' := 0) C hE rfl (by decide) cal_X9_number ml_X9_328 rfl ⟨(Nat.le_of_ble_eq_true rfl), (Nat.le_of_ble_eq_true rfl)⟩ ⟨(Nat.le_of_ble_eq_true rfl), (Nat.le_of_ble_eq_true rfl)⟩ dX9_clauseAnswer_93 (okX9_number E (kL K) a0 v4 v8 h11) rfl (Nat.le_of_ble_eq_true rfl) rfl rfl (fun v18 h17 eh17 => ?_)
    exact aw_ireturn (pc := 96) C hr rfl hz0 rfl dX9_clauseAnswer_96
  refine aw_case 100 (fun c19 => ?_) (fun c19 => ?_)
  · refine aw_lookup (pc := 35) (off := 49) C 84 dX9_clauseAnswer_35 (by decide +kernel) (by rw [c19]; decide +kernel) (by decide) ?_
    refine aw_aload_n (pc := 84) C dX9_clauseAnswer_84 rfl 2 rfl ?_
    refine aw_iload_n (pc := 85) C dX9_clauseAnswer_85 rfl 1 rfl ?_
    refine aw_callVI (pc := 86) (R := rmX9_clauseAnswer) (c := 9) (As := [.int v4]) (rest := []) (st := [.int v4, rf E a0]) (c' := 0) (s' := 0) C hE rfl (by decide) cal_X9_degree ml_X9_326 rfl ⟨(Nat.le_of_ble_eq_true rfl), (Nat.le_of_ble_eq_true rfl)⟩ ⟨(Nat.le_of_ble_eq_true rfl), (Nat.le_of_ble_eq_true rfl)⟩ dX9_clauseAnswer_86 (okX9_degree E (kL K) a0 v4 h11) rfl (Nat.le_of_ble_eq_true rfl) rfl rfl (fun v21 h20 eh20 => ?_)
    exact aw_ireturn (pc := 89) C hr rfl hz0 rfl dX9_clauseAnswer_89
  refine aw_case 116 (fun c22 => ?_) (fun c22 => ?_)
  · refine aw_lookup (pc := 35) (off := 74) C 109 dX9_clauseAnswer_35 (by decide +kernel) (by rw [c22]; decide +kernel) (by decide) ?_
    refine aw_aload_n (pc := 109) C dX9_clauseAnswer_109 rfl 2 rfl ?_
    refine aw_iload_n (pc := 110) C dX9_clauseAnswer_110 rfl 1 rfl ?_
    refine aw_callVI (pc := 111) (R := rmX9_clauseAnswer) (c := 9) (As := [.int v4]) (rest := []) (st := [.int v4, rf E a0]) (c' := 0) (s' := 0) C hE rfl (by decide) cal_X9_move ml_X9_337 rfl ⟨(Nat.le_of_ble_eq_true rfl), (Nat.le_of_ble_eq_true rfl)⟩ ⟨(Nat.le_of_ble_eq_true rfl), (Nat.le_of_ble_eq_true rfl)⟩ dX9_clauseAnswer_111 (okX9_move E (kL K) a0 v4 h11) rfl (Nat.le_of_ble_eq_true rfl) rfl rfl (fun v24 h23 eh23 => ?_)
    exact aw_ireturn (pc := 114) C hr rfl hz0 rfl dX9_clauseAnswer_114
  refine aw_case 119 (fun c25 => ?_) (fun c25 => ?_)
  · refine aw_lookup (pc := 35) (off := 68) C 103 dX9_clauseAnswer_35 (by decide +kernel) (by rw [c25]; decide +kernel) (by decide) ?_
    refine aw_aload_n (pc := 103) C dX9_clauseAnswer_103 rfl 2 rfl ?_
    refine aw_iload_n (pc := 104) C dX9_clauseAnswer_104 rfl 0 rfl ?_
    refine aw_callVI (pc := 105) (R := rmX9_clauseAnswer) (c := 9) (As := [.int v8]) (rest := []) (st := [.int v8, rf E a0]) (c' := 0) (s' := 0) C hE rfl (by decide) cal_X9_window ml_X9_334 rfl ⟨(Nat.le_of_ble_eq_true rfl), (Nat.le_of_ble_eq_true rfl)⟩ ⟨(Nat.le_of_ble_eq_true rfl), (Nat.le_of_ble_eq_true rfl)⟩ dX9_clauseAnswer_105 (okX9_window E (kL K) a0 v8 h11) rfl (Nat.le_of_ble_eq_true rfl) rfl rfl (fun v27 h26 eh26 => ?_)
    exact aw_ireturn (pc := 108) C hr rfl hz0 rfl dX9_clauseAnswer_108
  refine aw_lookup (pc := 35) (off := 80) C 115 dX9_clauseAnswer_35 (by decide +kernel) (by rw [lv_osw c13 (show (61 : Int32).toInt = 61 by decide)]; rw [lv_osw c16 (show (97 : Int32).toInt = 97 by decide)]; rw [lv_osw c19 (show (100 : Int32).toInt = 100 by decide)]; rw [lv_osw c22 (show (116 : Int32).toInt = 116 by decide)]; rw [lv_osw c25 (show (119 : Int32).toInt = 119 by decide)]; rfl) (by decide) ?_
  refine aw_iconst (pc := 115) (v := (-1)) C dX9_clauseAnswer_115 (by decide) ?_
  exact aw_ireturn (pc := 116) C hr rfl hz0 rfl dX9_clauseAnswer_116
def rmX9_read : Room := { frames := 6, cells := 0, slots := 0, locals := 142 }
set_option maxHeartbeats 4000000 in
set_option maxRecDepth 100000 in
theorem okX9_read (E : Ev) (l : Launch) (a0 : Nat) (h0 : Mem) : AMet E l yX9_read cX9_read 4 (some (.int)) rmX9_read [rf E a0] h0 rvI (fX9_read a0 h0) := by
  refine am_intro (plainFor_of_name (by decide +kernel)) (Nat.le_of_ble_eq_true rfl) (fun K hKl C hr hnm hz0 => ?_)
  replace C : CxOK K E RX9 cX9_read 4 := C
  have hE : E.1 + 1 ≤ (kS K).heap.size := by omega
  unfold fX9_read
  show Aw K E _ _ _ _ _ 0 [(0, rf E a0)] [] h0 _
  refine aw_aload_n (pc := 0) C dX9_read_0 rfl 0 rfl ?_
  refine aw_getR (pc := 1) C fl_X9_56 dX9_read_1 (fun v1 ev1 => ?_)
  refine aw_callVI (pc := 4) (R := rmX9_read) (c := 5) (As := []) (rest := []) (st := [rf E v1]) (c' := 0) (s' := 0) C hE rfl (by decide) cal_X5_findFault ml_X9_125 rfl ⟨(Nat.le_of_ble_eq_true rfl), (Nat.le_of_ble_eq_true rfl)⟩ ⟨(Nat.le_of_ble_eq_true rfl), (Nat.le_of_ble_eq_true rfl)⟩ dX9_read_4 (okX5_findFault E (kL K) v1 h0) rfl (Nat.le_of_ble_eq_true rfl) rfl rfl (fun v3 h2 eh2 => ?_)
  refine aw_istore_n (pc := 7) (L' := [(1, .int v3), (0, rf E a0)]) C dX9_read_7 rfl (by decide) rfl ?_
  refine aw_aload_n (pc := 8) C dX9_read_8 rfl 1 rfl ?_
  refine aw_getR (pc := 9) C fl_X9_56 dX9_read_9 (fun v4 ev4 => ?_)
  refine aw_iconst (pc := 12) (v := 0) C dX9_read_12 (by decide) ?_
  refine aw_putI (pc := 13) C fw_X9_122 rfl rfl dX9_read_13 (fun h5 eh5 => ?_)
  refine aw_iload_n (pc := 16) C dX9_read_16 rfl 0 rfl ?_
  refine aw_iconst (pc := 17) (v := (-1)) C dX9_read_17 (by decide) ?_
  refine aw_icmp_eq (pc := 18) C 26 dX9_read_18 (by decide) (fun c21 => ?_) (fun c21 => ?_)
  · refine aw_iconst (pc := 26) (v := 0) C dX9_read_26 (by decide) ?_
    refine aw_istore_n (pc := 27) (L' := [(2, .int 0), (1, .int v3), (0, rf E a0)]) C dX9_read_27 rfl (by decide) rfl ?_
    refine aw_iconst (pc := 28) (v := 0) C dX9_read_28 (by decide) ?_
    refine aw_istore_n (pc := 29) (L' := [(3, .int 0), (2, .int 0), (1, .int v3), (0, rf E a0)]) C dX9_read_29 rfl (by decide) rfl ?_
    refine aw_sub (L' := [(0, rf E a0), (2, .int 0), (3, .int 0)]) [3, 1, 0] rfl ?_
    refine aw_loop (pc := 30) (σ := Int32 × Int32 × Mem) (fun s => [(0, rf E a0), (2, .int s.1), (3, .int s.2.1)]) (fun s => s.2.2) _ (fun k9 ih10 s => ?_) _ _
    obtain ⟨v6, v7, h8⟩ := s
    show Aw K E _ _ _ _ _ 30 [(0, rf E a0), (2, .int v6), (3, .int v7)] [] h8 _
    refine aw_iload_n (pc := 30) C dX9_read_30 rfl 2 rfl ?_
    refine aw_aload_n (pc := 31) C dX9_read_31 rfl 0 rfl ?_
    refine aw_getR (pc := 32) C fl_X9_56 dX9_read_32 (fun v11 ev11 => ?_)
    refine aw_getR (pc := 35) C fl_X9_129 dX9_read_35 (fun v12 ev12 => ?_)
    refine aw_getI (pc := 38) C fl_X9_133 dX9_read_38 (fun v13 ev13 => ?_)
    refine aw_icmp_ge (pc := 41) C 61 dX9_read_41 (by decide) (fun c20 => ?_) (fun c20 => ?_)
    · refine aw_iload_n (pc := 61) C dX9_read_61 rfl 1 rfl ?_
      exact aw_ireturn (pc := 62) C hr rfl hz0 rfl dX9_read_62
    refine aw_aload_n (pc := 44) C dX9_read_44 rfl 0 rfl ?_
    refine aw_iload_n (pc := 45) C dX9_read_45 rfl 2 rfl ?_
    refine aw_callVI (pc := 46) (R := rmX9_read) (c := 9) (As := [.int v7]) (rest := []) (st := [.int v7, rf E a0]) (c' := 0) (s' := 0) C hE rfl (by decide) cal_X9_clauseAnswer ml_X9_136 rfl ⟨(Nat.le_of_ble_eq_true rfl), (Nat.le_of_ble_eq_true rfl)⟩ ⟨(Nat.le_of_ble_eq_true rfl), (Nat.le_of_ble_eq_true rfl)⟩ dX9_read_46 (okX9_clauseAnswer E (kL K) a0 v7 h8) rfl (Nat.le_of_ble_eq_true rfl) rfl rfl (fun v15 h14 eh14 => ?_)
    refine aw_if_lt (pc := 49) C 55 dX9_read_49 (by decide) (fun c19 => ?_) (fun c19 => ?_)
    · refine aw_iincN (pc := 55) (L1 := [(0, rf E a0), (2, .int v6)]) (k := 1) C dX9_read_55 2 rfl (by decide) (by decide) rfl (fun v18 ev18 => ?_)
      refine aw_goto (pc := 58) C 30 dX9_read_58 (by decide) ?_
      exact aw_sub (L' := [(0, rf E a0), (2, .int v6), (3, .int v18)]) [1, 2, 0] rfl (ih10 (v6, v18, h14))
    refine aw_iincN (pc := 52) (L1 := [(0, rf E a0), (3, .int v7)]) (k := 1) C dX9_read_52 1 rfl (by decide) (by decide) rfl (fun v16 ev16 => ?_)
    refine aw_iincN (pc := 55) (L1 := [(2, .int v16), (0, rf E a0)]) (k := 1) C dX9_read_55 2 rfl (by decide) (by decide) rfl (fun v17 ev17 => ?_)
    refine aw_goto (pc := 58) C 30 dX9_read_58 (by decide) ?_
    exact aw_sub (L' := [(0, rf E a0), (2, .int v16), (3, .int v17)]) [2, 1, 0] rfl (ih10 (v16, v17, h14))
  refine aw_bipush (pc := 21) (v := (-10)) C dX9_read_21 (by decide) ?_
  refine aw_iload_n (pc := 23) C dX9_read_23 rfl 0 rfl ?_
  refine aw_isub (pc := 24) C dX9_read_24 ?_
  exact aw_ireturn (pc := 25) C hr rfl hz0 rfl dX9_read_25
def rmX9_of : Room := { frames := 2, cells := 0, slots := 0, locals := 42 }
set_option maxHeartbeats 4000000 in
set_option maxRecDepth 100000 in
theorem okX9_of (E : Ev) (l : Launch) (a0 : Nat) (a1 : Int32) (h0 : Mem) : AMet E l yX9_of cX9_of 3 (some (.int)) rmX9_of [rf E a0, .int a1] h0 rvI (fX9_of a0 a1 h0) := by
  refine am_intro (plainFor_of_name (by decide +kernel)) (Nat.le_of_ble_eq_true rfl) (fun K hKl C hr hnm hz0 => ?_)
  replace C : CxOK K E RX9 cX9_of 3 := C
  have hE : E.1 + 1 ≤ (kS K).heap.size := by omega
  unfold fX9_of
  show Aw K E _ _ _ _ _ 0 [(0, rf E a0), (1, .int a1)] [] h0 _
  refine aw_aload_n (pc := 0) C dX9_of_0 rfl 0 rfl ?_
  refine aw_getR (pc := 1) C fl_X9_12 dX9_of_1 (fun v1 ev1 => ?_)
  refine aw_getR (pc := 4) C fl_X9_71 dX9_of_4 (fun v2 ev2 => ?_)
  refine aw_getR (pc := 7) C fl_X9_74 dX9_of_7 (fun v3 ev3 => ?_)
  refine aw_astore_n (pc := 10) (L' := [(2, rf E v3), (0, rf E a0), (1, .int a1)]) C dX9_of_10 rfl (by decide) rfl ?_
  refine aw_aload_n (pc := 11) C dX9_of_11 rfl 0 rfl ?_
  refine aw_iload_n (pc := 12) C dX9_of_12 rfl 2 rfl ?_
  refine aw_callVI (pc := 13) (R := rmX9_of) (c := 2) (As := [.int a1]) (rest := []) (st := [.int a1, rf E v3]) (c' := 0) (s' := 0) C hE rfl (by decide) cal_X2_has ml_X9_88 rfl ⟨(Nat.le_of_ble_eq_true rfl), (Nat.le_of_ble_eq_true rfl)⟩ ⟨(Nat.le_of_ble_eq_true rfl), (Nat.le_of_ble_eq_true rfl)⟩ dX9_of_13 (okX2_has E (kL K) v3 a1 h0) rfl (Nat.le_of_ble_eq_true rfl) rfl rfl (fun v5 h4 eh4 => ?_)
  refine aw_if_eq (pc := 16) C 30 dX9_of_16 (by decide) (fun c8 => ?_) (fun c8 => ?_)
  · refine aw_iconst (pc := 30) (v := (-1)) C dX9_of_30 (by decide) ?_
    exact aw_ireturn (pc := 31) C hr rfl hz0 rfl dX9_of_31
  refine aw_aload_n (pc := 19) C dX9_of_19 rfl 0 rfl ?_
  refine aw_iload_n (pc := 20) C dX9_of_20 rfl 2 rfl ?_
  refine aw_callVI (pc := 21) (R := rmX9_of) (c := 2) (As := [.int a1]) (rest := []) (st := [.int a1, rf E v3]) (c' := 0) (s' := 0) C hE rfl (by decide) cal_X2_get ml_X9_92 rfl ⟨(Nat.le_of_ble_eq_true rfl), (Nat.le_of_ble_eq_true rfl)⟩ ⟨(Nat.le_of_ble_eq_true rfl), (Nat.le_of_ble_eq_true rfl)⟩ dX9_of_21 (okX2_get E (kL K) v3 a1 h4) rfl (Nat.le_of_ble_eq_true rfl) rfl rfl (fun v7 h6 eh6 => ?_)
  refine aw_bipush (pc := 24) (v := 100) C dX9_of_24 (by decide) ?_
  refine aw_iadd (pc := 26) C dX9_of_26 ?_
  refine aw_goto (pc := 27) C 31 dX9_of_27 (by decide) ?_
  exact aw_ireturn (pc := 31) C hr rfl hz0 rfl dX9_of_31
def rmX2_isLike : Room := { frames := 0, cells := 0, slots := 0, locals := 0 }
set_option maxHeartbeats 4000000 in
set_option maxRecDepth 100000 in
theorem okX2_isLike (E : Ev) (l : Launch) (a0 : Nat) (a1 : Nat) (h0 : Mem) : AMet E l yX2_isLike cX2_isLike 3 (some (.boolean)) rmX2_isLike [rf E a0, rf E a1] h0 rvI (fX2_isLike a0 a1 h0) := by
  refine am_intro (plainFor_of_name (by decide +kernel)) (Nat.le_of_ble_eq_true rfl) (fun K hKl C hr hnm hz0 => ?_)
  replace C : CxOK K E RX2 cX2_isLike 3 := C
  have hE : E.1 + 1 ≤ (kS K).heap.size := by omega
  unfold fX2_isLike
  show Aw K E _ _ _ _ _ 0 [(0, rf E a0), (1, rf E a1)] [] h0 _
  refine aw_iconst (pc := 0) (v := 0) C dX2_isLike_0 (by decide) ?_
  refine aw_istore_n (pc := 1) (L' := [(2, .int 0), (0, rf E a0), (1, rf E a1)]) C dX2_isLike_1 rfl (by decide) rfl ?_
  refine aw_sub (L' := [(0, rf E a0), (1, rf E a1), (2, .int 0)]) [1, 2, 0] rfl ?_
  refine aw_loop (pc := 2) (σ := Int32) (fun s => [(0, rf E a0), (1, rf E a1), (2, .int s)]) (fun s => h0) _ (fun k2 ih3 s => ?_) _ _
  generalize s = v1
  show Aw K E _ _ _ _ _ 2 [(0, rf E a0), (1, rf E a1), (2, .int v1)] [] h0 _
  refine aw_iload_n (pc := 2) C dX2_isLike_2 rfl 2 rfl ?_
  refine aw_aload_n (pc := 3) C dX2_isLike_3 rfl 0 rfl ?_
  refine aw_getR (pc := 4) C fl_X2_15 dX2_isLike_4 (fun v4 ev4 => ?_)
  refine aw_arraylength (pc := 7) C dX2_isLike_7 (fun v5 ev5 => ?_)
  refine aw_icmp_ge (pc := 8) C 34 dX2_isLike_8 (by decide) (fun c15 => ?_) (fun c15 => ?_)
  · refine aw_aload_n (pc := 34) C dX2_isLike_34 rfl 0 rfl ?_
    refine aw_getI (pc := 35) C fl_X2_9 dX2_isLike_35 (fun v12 ev12 => ?_)
    refine aw_aload_n (pc := 38) C dX2_isLike_38 rfl 1 rfl ?_
    refine aw_getI (pc := 39) C fl_X2_9 dX2_isLike_39 (fun v13 ev13 => ?_)
    refine aw_icmp_ne (pc := 42) C 49 dX2_isLike_42 (by decide) (fun c14 => ?_) (fun c14 => ?_)
    · refine aw_iconst (pc := 45) (v := 1) C dX2_isLike_45 (by decide) ?_
      refine aw_goto (pc := 46) C 50 dX2_isLike_46 (by decide) ?_
      exact aw_ireturn (pc := 50) C hr rfl hz0 rfl dX2_isLike_50
    refine aw_iconst (pc := 49) (v := 0) C dX2_isLike_49 (by decide) ?_
    exact aw_ireturn (pc := 50) C hr rfl hz0 rfl dX2_isLike_50
  refine aw_aload_n (pc := 11) C dX2_isLike_11 rfl 0 rfl ?_
  refine aw_getR (pc := 12) C fl_X2_15 dX2_isLike_12 (fun v6 ev6 => ?_)
  refine aw_iload_n (pc := 15) C dX2_isLike_15 rfl 2 rfl ?_
  refine aw_iaload (pc := 16) C dX2_isLike_16 (fun v7 ev7 => ?_)
  refine aw_aload_n (pc := 17) C dX2_isLike_17 rfl 1 rfl ?_
  refine aw_getR (pc := 18) C fl_X2_15 dX2_isLike_18 (fun v8 ev8 => ?_)
  refine aw_iload_n (pc := 21) C dX2_isLike_21 rfl 2 rfl ?_
  refine aw_iaload (pc := 22) C dX2_isLike_22 (fun v9 ev9 => ?_)
  refine aw_icmp_eq (pc := 23) C 28 dX2_isLike_23 (by decide) (fun c11 => ?_) (fun c11 => ?_)
  · refine aw_iincN (pc := 28) (L1 := [(0, rf E a0), (1, rf E a1)]) (k := 1) C dX2_isLike_28 2 rfl (by decide) (by decide) rfl (fun v10 ev10 => ?_)
    refine aw_goto (pc := 31) C 2 dX2_isLike_31 (by decide) ?_
    exact aw_sub (L' := [(0, rf E a0), (1, rf E a1), (2, .int v10)]) [1, 2, 0] rfl (ih3 v10)
  refine aw_iconst (pc := 26) (v := 0) C dX2_isLike_26 (by decide) ?_
  exact aw_ireturn (pc := 27) C hr rfl hz0 rfl dX2_isLike_27
def rmX1_isLike : Room := { frames := 1, cells := 0, slots := 0, locals := 22 }
set_option maxHeartbeats 4000000 in
set_option maxRecDepth 100000 in
theorem okX1_isLike (E : Ev) (l : Launch) (a0 : Nat) (a1 : Nat) (h0 : Mem) : AMet E l yX1_isLike cX1_isLike 2 (some (.boolean)) rmX1_isLike [rf E a0, rf E a1] h0 rvI (fX1_isLike a0 a1 h0) := by
  refine am_intro (plainFor_of_name (by decide +kernel)) (Nat.le_of_ble_eq_true rfl) (fun K hKl C hr hnm hz0 => ?_)
  replace C : CxOK K E RX1 cX1_isLike 2 := C
  have hE : E.1 + 1 ≤ (kS K).heap.size := by omega
  unfold fX1_isLike
  show Aw K E _ _ _ _ _ 0 [(0, rf E a0), (1, rf E a1)] [] h0 _
  refine aw_aload_n (pc := 0) C dX1_isLike_0 rfl 0 rfl ?_
  refine aw_getI (pc := 1) C fl_X1_18 dX1_isLike_1 (fun v1 ev1 => ?_)
  refine aw_aload_n (pc := 4) C dX1_isLike_4 rfl 1 rfl ?_
  refine aw_getI (pc := 5) C fl_X1_18 dX1_isLike_5 (fun v2 ev2 => ?_)
  refine aw_icmp_ne (pc := 8) C 40 dX1_isLike_8 (by decide) (fun c11 => ?_) (fun c11 => ?_)
  · refine aw_aload_n (pc := 11) C dX1_isLike_11 rfl 0 rfl ?_
    refine aw_getI (pc := 12) C fl_X1_22 dX1_isLike_12 (fun v3 ev3 => ?_)
    refine aw_aload_n (pc := 15) C dX1_isLike_15 rfl 1 rfl ?_
    refine aw_getI (pc := 16) C fl_X1_22 dX1_isLike_16 (fun v4 ev4 => ?_)
    refine aw_icmp_ne (pc := 19) C 40 dX1_isLike_19 (by decide) (fun c10 => ?_) (fun c10 => ?_)
    · refine aw_aload_n (pc := 22) C dX1_isLike_22 rfl 0 rfl ?_
      refine aw_getR (pc := 23) C fl_X1_12 dX1_isLike_23 (fun v5 ev5 => ?_)
      refine aw_aload_n (pc := 26) C dX1_isLike_26 rfl 1 rfl ?_
      refine aw_getR (pc := 27) C fl_X1_12 dX1_isLike_27 (fun v6 ev6 => ?_)
      refine aw_callVI (pc := 30) (R := rmX1_isLike) (c := 2) (As := [rf E v6]) (rest := []) (st := [rf E v6, rf E v5]) (c' := 0) (s' := 0) C hE rfl (by decide) cal_X2_isLike ml_X1_29 rfl ⟨(Nat.le_of_ble_eq_true rfl), (Nat.le_of_ble_eq_true rfl)⟩ ⟨(Nat.le_of_ble_eq_true rfl), (Nat.le_of_ble_eq_true rfl)⟩ dX1_isLike_30 (okX2_isLike E (kL K) v5 v6 h0) rfl (Nat.le_of_ble_eq_true rfl) rfl rfl (fun v8 h7 eh7 => ?_)
      refine aw_if_eq (pc := 33) C 40 dX1_isLike_33 (by decide) (fun c9 => ?_) (fun c9 => ?_)
      · refine aw_iconst (pc := 40) (v := 0) C dX1_isLike_40 (by decide) ?_
        exact aw_ireturn (pc := 41) C hr rfl hz0 rfl dX1_isLike_41
      refine aw_iconst (pc := 36) (v := 1) C dX1_isLike_36 (by decide) ?_
      refine aw_goto (pc := 37) C 41 dX1_isLike_37 (by decide) ?_
      exact aw_ireturn (pc := 41) C hr rfl hz0 rfl dX1_isLike_41
    refine aw_iconst (pc := 40) (v := 0) C dX1_isLike_40 (by decide) ?_
    exact aw_ireturn (pc := 41) C hr rfl hz0 rfl dX1_isLike_41
  refine aw_iconst (pc := 40) (v := 0) C dX1_isLike_40 (by decide) ?_
  exact aw_ireturn (pc := 41) C hr rfl hz0 rfl dX1_isLike_41
def rmX2_copy : Room := { frames := 1, cells := 0, slots := 0, locals := 80 }
set_option maxHeartbeats 4000000 in
set_option maxRecDepth 100000 in
theorem okX2_copy (E : Ev) (l : Launch) (a0 : Nat) (a1 : Nat) (h0 : Mem) : AMet E l yX2_copy cX2_copy 2 none rmX2_copy [rf E a0, rf E a1] h0 rvV (fX2_copy a0 a1 h0) := by
  refine am_intro (plainFor_of_name (by decide +kernel)) (Nat.le_of_ble_eq_true rfl) (fun K hKl C hr hnm hz0 => ?_)
  replace C : CxOK K E RX2 cX2_copy 2 := C
  have hE : E.1 + 1 ≤ (kS K).heap.size := by omega
  unfold fX2_copy
  show Aw K E _ _ _ _ _ 0 [(0, rf E a0), (1, rf E a1)] [] h0 _
  refine aw_aload_n (pc := 0) C dX2_copy_0 rfl 0 rfl ?_
  refine aw_aload_n (pc := 1) C dX2_copy_1 rfl 1 rfl ?_
  refine aw_getI (pc := 2) C fl_X2_9 dX2_copy_2 (fun v1 ev1 => ?_)
  refine aw_putI (pc := 5) C fw_X2_9 rfl rfl dX2_copy_5 (fun h2 eh2 => ?_)
  refine aw_aload_n (pc := 8) C dX2_copy_8 rfl 1 rfl ?_
  refine aw_getR (pc := 9) C fl_X2_15 dX2_copy_9 (fun v3 ev3 => ?_)
  refine aw_iconst (pc := 12) (v := 0) C dX2_copy_12 (by decide) ?_
  refine aw_aload_n (pc := 13) C dX2_copy_13 rfl 0 rfl ?_
  refine aw_getR (pc := 14) C fl_X2_15 dX2_copy_14 (fun v4 ev4 => ?_)
  refine aw_iconst (pc := 17) (v := 0) C dX2_copy_17 (by decide) ?_
  refine aw_aload_n (pc := 18) C dX2_copy_18 rfl 0 rfl ?_
  refine aw_getR (pc := 19) C fl_X2_15 dX2_copy_19 (fun v5 ev5 => ?_)
  refine aw_arraylength (pc := 22) C dX2_copy_22 (fun v6 ev6 => ?_)
  refine aw_copyI (pc := 23) C ml_X2_32 ac_1 ac_2 ac_3 (Nat.le_of_ble_eq_true rfl) (by decide +kernel) dX2_copy_23 (fun h7 eh7 => ?_)
  exact aw_return (pc := 26) C hr hz0 rfl dX2_copy_26
def rmX1_copy : Room := { frames := 2, cells := 0, slots := 0, locals := 101 }
set_option maxHeartbeats 4000000 in
set_option maxRecDepth 100000 in
theorem okX1_copy (E : Ev) (l : Launch) (a0 : Nat) (a1 : Nat) (h0 : Mem) : AMet E l yX1_copy cX1_copy 2 none rmX1_copy [rf E a0, rf E a1] h0 rvV (fX1_copy a0 a1 h0) := by
  refine am_intro (plainFor_of_name (by decide +kernel)) (Nat.le_of_ble_eq_true rfl) (fun K hKl C hr hnm hz0 => ?_)
  replace C : CxOK K E RX1 cX1_copy 2 := C
  have hE : E.1 + 1 ≤ (kS K).heap.size := by omega
  unfold fX1_copy
  show Aw K E _ _ _ _ _ 0 [(0, rf E a0), (1, rf E a1)] [] h0 _
  refine aw_aload_n (pc := 0) C dX1_copy_0 rfl 0 rfl ?_
  refine aw_getR (pc := 1) C fl_X1_12 dX1_copy_1 (fun v1 ev1 => ?_)
  refine aw_aload_n (pc := 4) C dX1_copy_4 rfl 1 rfl ?_
  refine aw_getR (pc := 5) C fl_X1_12 dX1_copy_5 (fun v2 ev2 => ?_)
  refine aw_callVV (pc := 8) (R := rmX1_copy) (c := 2) (As := [rf E v2]) (rest := []) (st := [rf E v2, rf E v1]) (c' := 0) (s' := 0) C hE rfl (by decide) cal_X2_copy ml_X1_25 rfl ⟨(Nat.le_of_ble_eq_true rfl), (Nat.le_of_ble_eq_true rfl)⟩ ⟨(Nat.le_of_ble_eq_true rfl), (Nat.le_of_ble_eq_true rfl)⟩ dX1_copy_8 (okX2_copy E (kL K) v1 v2 h0) rfl (Nat.le_of_ble_eq_true rfl) rfl rfl (fun _u h3 eh3 => ?_)
  refine aw_aload_n (pc := 11) C dX1_copy_11 rfl 0 rfl ?_
  refine aw_aload_n (pc := 12) C dX1_copy_12 rfl 1 rfl ?_
  refine aw_getI (pc := 13) C fl_X1_18 dX1_copy_13 (fun v4 ev4 => ?_)
  refine aw_putI (pc := 16) C fw_X1_18 rfl rfl dX1_copy_16 (fun h5 eh5 => ?_)
  refine aw_aload_n (pc := 19) C dX1_copy_19 rfl 0 rfl ?_
  refine aw_aload_n (pc := 20) C dX1_copy_20 rfl 1 rfl ?_
  refine aw_getI (pc := 21) C fl_X1_22 dX1_copy_21 (fun v6 ev6 => ?_)
  refine aw_putI (pc := 24) C fw_X1_22 rfl rfl dX1_copy_24 (fun h7 eh7 => ?_)
  exact aw_return (pc := 27) C hr hz0 rfl dX1_copy_27
def rmX1_hasInWindow : Room := { frames := 0, cells := 0, slots := 0, locals := 0 }
set_option maxHeartbeats 4000000 in
set_option maxRecDepth 100000 in
theorem okX1_hasInWindow (E : Ev) (l : Launch) (a0 : Nat) (a1 : Int64) (a3 : Int64) (h0 : Mem) : AMet E l yX1_hasInWindow cX1_hasInWindow 5 (some (.boolean)) rmX1_hasInWindow [rf E a0, .long a1, .long a3] h0 rvI (fX1_hasInWindow a0 a1 a3 h0) := by
  refine am_intro (plainFor_of_name (by decide +kernel)) (Nat.le_of_ble_eq_true rfl) (fun K hKl C hr hnm hz0 => ?_)
  replace C : CxOK K E RX1 cX1_hasInWindow 5 := C
  have hE : E.1 + 1 ≤ (kS K).heap.size := by omega
  unfold fX1_hasInWindow
  show Aw K E _ _ _ _ _ 0 [(0, rf E a0), (1, .long a1), (3, .long a3)] [] h0 _
  refine aw_lload_n (pc := 0) C dX1_hasInWindow_0 rfl 1 rfl ?_
  refine aw_aload_n (pc := 1) C dX1_hasInWindow_1 rfl 0 rfl ?_
  refine aw_getI (pc := 2) C fl_X1_22 dX1_hasInWindow_2 (fun v1 ev1 => ?_)
  refine aw_ineg (pc := 5) C dX1_hasInWindow_5 ?_
  refine aw_i2l (pc := 6) C dX1_hasInWindow_6 ?_
  refine aw_lcmp (pc := 7) C dX1_hasInWindow_7 ?_
  refine aw_if_lt (pc := 8) C 46 dX1_hasInWindow_8 (by decide) (fun c8 => ?_) (fun c8 => ?_)
  · refine aw_iconst (pc := 46) (v := 0) C dX1_hasInWindow_46 (by decide) ?_
    exact aw_ireturn (pc := 47) C hr rfl hz0 rfl dX1_hasInWindow_47
  refine aw_lload_n (pc := 11) C dX1_hasInWindow_11 rfl 1 rfl ?_
  refine aw_aload_n (pc := 12) C dX1_hasInWindow_12 rfl 0 rfl ?_
  refine aw_getI (pc := 13) C fl_X1_22 dX1_hasInWindow_13 (fun v2 ev2 => ?_)
  refine aw_i2l (pc := 16) C dX1_hasInWindow_16 ?_
  refine aw_lcmp (pc := 17) C dX1_hasInWindow_17 ?_
  refine aw_if_gt (pc := 18) C 46 dX1_hasInWindow_18 (by decide) (fun c7 => ?_) (fun c7 => ?_)
  · refine aw_iconst (pc := 46) (v := 0) C dX1_hasInWindow_46 (by decide) ?_
    exact aw_ireturn (pc := 47) C hr rfl hz0 rfl dX1_hasInWindow_47
  refine aw_lload_n (pc := 21) C dX1_hasInWindow_21 rfl 2 rfl ?_
  refine aw_aload_n (pc := 22) C dX1_hasInWindow_22 rfl 0 rfl ?_
  refine aw_getI (pc := 23) C fl_X1_22 dX1_hasInWindow_23 (fun v3 ev3 => ?_)
  refine aw_ineg (pc := 26) C dX1_hasInWindow_26 ?_
  refine aw_i2l (pc := 27) C dX1_hasInWindow_27 ?_
  refine aw_lcmp (pc := 28) C dX1_hasInWindow_28 ?_
  refine aw_if_lt (pc := 29) C 46 dX1_hasInWindow_29 (by decide) (fun c6 => ?_) (fun c6 => ?_)
  · refine aw_iconst (pc := 46) (v := 0) C dX1_hasInWindow_46 (by decide) ?_
    exact aw_ireturn (pc := 47) C hr rfl hz0 rfl dX1_hasInWindow_47
  refine aw_lload_n (pc := 32) C dX1_hasInWindow_32 rfl 2 rfl ?_
  refine aw_aload_n (pc := 33) C dX1_hasInWindow_33 rfl 0 rfl ?_
  refine aw_getI (pc := 34) C fl_X1_22 dX1_hasInWindow_34 (fun v4 ev4 => ?_)
  refine aw_i2l (pc := 37) C dX1_hasInWindow_37 ?_
  refine aw_lcmp (pc := 38) C dX1_hasInWindow_38 ?_
  refine aw_if_gt (pc := 39) C 46 dX1_hasInWindow_39 (by decide) (fun c5 => ?_) (fun c5 => ?_)
  · refine aw_iconst (pc := 46) (v := 0) C dX1_hasInWindow_46 (by decide) ?_
    exact aw_ireturn (pc := 47) C hr rfl hz0 rfl dX1_hasInWindow_47
  refine aw_iconst (pc := 42) (v := 1) C dX1_hasInWindow_42 (by decide) ?_
  refine aw_goto (pc := 43) C 47 dX1_hasInWindow_43 (by decide) ?_
  exact aw_ireturn (pc := 47) C hr rfl hz0 rfl dX1_hasInWindow_47
def rmX2_at : Room := { frames := 0, cells := 0, slots := 0, locals := 0 }
set_option maxHeartbeats 4000000 in
set_option maxRecDepth 100000 in
theorem okX2_at (E : Ev) (l : Launch) (a0 : Nat) (a1 : Int64) (a3 : Int64) (h0 : Mem) : AMet E l yX2_at cX2_at 10 (some (.long)) rmX2_at [rf E a0, .long a1, .long a3] h0 rvJ (fX2_at a0 a1 a3 h0) := by
  refine am_intro (plainFor_of_name (by decide +kernel)) (Nat.le_of_ble_eq_true rfl) (fun K hKl C hr hnm hz0 => ?_)
  replace C : CxOK K E RX2 cX2_at 10 := C
  have hE : E.1 + 1 ≤ (kS K).heap.size := by omega
  unfold fX2_at
  show Aw K E _ _ _ _ _ 0 [(0, rf E a0), (1, .long a1), (3, .long a3)] [] h0 _
  refine aw_aload_n (pc := 0) C dX2_at_0 rfl 0 rfl ?_
  refine aw_getR (pc := 1) C fl_X2_15 dX2_at_1 (fun v1 ev1 => ?_)
  refine aw_iconst (pc := 4) (v := 0) C dX2_at_4 (by decide) ?_
  refine aw_iaload (pc := 5) C dX2_at_5 (fun v2 ev2 => ?_)
  refine aw_i2l (pc := 6) C dX2_at_6 ?_
  refine aw_nmJ (pc := 7) (fun v3 ev3 => ?_)
  refine aw_lstore (pc := 7) (L' := [(5, .long v3), (0, rf E a0), (1, .long a1), (3, .long a3)]) C dX2_at_7 (by decide) rfl ?_
  refine aw_lconst (pc := 9) (v := 1) C dX2_at_9 (by decide) ?_
  refine aw_lstore (pc := 10) (L' := [(7, .long 1), (5, .long v3), (0, rf E a0), (1, .long a1), (3, .long a3)]) C dX2_at_10 (by decide) rfl ?_
  refine aw_iconst (pc := 12) (v := 1) C dX2_at_12 (by decide) ?_
  refine aw_istore (pc := 13) (L' := [(9, .int 1), (7, .long 1), (5, .long v3), (0, rf E a0), (1, .long a1), (3, .long a3)]) C dX2_at_13 (by decide) rfl ?_
  refine aw_sub (L' := [(0, rf E a0), (1, .long a1), (3, .long a3), (5, .long v3), (7, .long 1), (9, .int 1)]) [3, 4, 5, 2, 1, 0] rfl ?_
  refine aw_loop (pc := 15) (σ := Int64 × Int64 × Int32) (fun s => [(0, rf E a0), (1, .long a1), (3, .long a3), (5, .long s.1), (7, .long s.2.1), (9, .int s.2.2)]) (fun s => h0) _ (fun k7 ih8 s => ?_) _ _
  obtain ⟨v4, v5, v6⟩ := s
  show Aw K E _ _ _ _ _ 15 [(0, rf E a0), (1, .long a1), (3, .long a3), (5, .long v4), (7, .long v5), (9, .int v6)] [] h0 _
  refine aw_iload (pc := 15) C dX2_at_15 5 rfl ?_
  refine aw_aload_n (pc := 17) C dX2_at_17 rfl 0 rfl ?_
  refine aw_getI (pc := 18) C fl_X2_9 dX2_at_18 (fun v9 ev9 => ?_)
  refine aw_icmp_gt (pc := 21) C 64 dX2_at_21 (by decide) (fun c18 => ?_) (fun c18 => ?_)
  · refine aw_lload (pc := 64) C dX2_at_64 3 rfl ?_
    exact aw_lreturn (pc := 66) C hr hz0 rfl dX2_at_66
  refine aw_iload (pc := 24) C dX2_at_24 5 rfl ?_
  refine aw_aload_n (pc := 26) C dX2_at_26 rfl 0 rfl ?_
  refine aw_getR (pc := 27) C fl_X2_15 dX2_at_27 (fun v10 ev10 => ?_)
  refine aw_arraylength (pc := 30) C dX2_at_30 (fun v11 ev11 => ?_)
  refine aw_icmp_ge (pc := 31) C 64 dX2_at_31 (by decide) (fun c17 => ?_) (fun c17 => ?_)
  · refine aw_lload (pc := 64) C dX2_at_64 3 rfl ?_
    exact aw_lreturn (pc := 66) C hr hz0 rfl dX2_at_66
  refine aw_lload (pc := 34) C dX2_at_34 4 rfl ?_
  refine aw_lload_n (pc := 36) C dX2_at_36 rfl 2 rfl ?_
  refine aw_lmul (pc := 37) C dX2_at_37 ?_
  refine aw_nmJ (pc := 38) (fun v12 ev12 => ?_)
  refine aw_lstore (pc := 38) (L' := [(7, .long v12), (0, rf E a0), (1, .long a1), (3, .long a3), (5, .long v4), (9, .int v6)]) C dX2_at_38 (by decide) rfl ?_
  refine aw_lload (pc := 40) C dX2_at_40 4 rfl ?_
  refine aw_lload_n (pc := 42) C dX2_at_42 rfl 2 rfl ?_
  refine aw_lmul (pc := 43) C dX2_at_43 ?_
  refine aw_aload_n (pc := 44) C dX2_at_44 rfl 1 rfl ?_
  refine aw_getR (pc := 45) C fl_X2_15 dX2_at_45 (fun v13 ev13 => ?_)
  refine aw_iload (pc := 48) C dX2_at_48 5 rfl ?_
  refine aw_iaload (pc := 50) C dX2_at_50 (fun v14 ev14 => ?_)
  refine aw_i2l (pc := 51) C dX2_at_51 ?_
  refine aw_lload (pc := 52) C dX2_at_52 0 rfl ?_
  refine aw_lmul (pc := 54) C dX2_at_54 ?_
  refine aw_ladd (pc := 55) C dX2_at_55 ?_
  refine aw_nmJ (pc := 56) (fun v15 ev15 => ?_)
  refine aw_lstore (pc := 56) (L' := [(5, .long v15), (7, .long v12), (0, rf E a0), (1, .long a1), (3, .long a3), (9, .int v6)]) C dX2_at_56 (by decide) rfl ?_
  refine aw_iincN (pc := 58) (L1 := [(5, .long v15), (7, .long v12), (0, rf E a0), (1, .long a1), (3, .long a3)]) (k := 1) C dX2_at_58 5 rfl (by decide) (by decide) rfl (fun v16 ev16 => ?_)
  refine aw_goto (pc := 61) C 15 dX2_at_61 (by decide) ?_
  exact aw_sub (L' := [(0, rf E a0), (1, .long a1), (3, .long a3), (5, .long v15), (7, .long v12), (9, .int v16)]) [3, 4, 5, 1, 2, 0] rfl (ih8 (v15, v12, v16))
def rmX1_isAnswer : Room := { frames := 1, cells := 0, slots := 0, locals := 29 }
set_option maxHeartbeats 4000000 in
set_option maxRecDepth 100000 in
theorem okX1_isAnswer (E : Ev) (l : Launch) (a0 : Nat) (a1 : Int64) (a3 : Int64) (h0 : Mem) : AMet E l yX1_isAnswer cX1_isAnswer 5 (some (.boolean)) rmX1_isAnswer [rf E a0, .long a1, .long a3] h0 rvI (fX1_isAnswer a0 a1 a3 h0) := by
  refine am_intro (plainFor_of_name (by decide +kernel)) (Nat.le_of_ble_eq_true rfl) (fun K hKl C hr hnm hz0 => ?_)
  replace C : CxOK K E RX1 cX1_isAnswer 5 := C
  have hE : E.1 + 1 ≤ (kS K).heap.size := by omega
  unfold fX1_isAnswer
  show Aw K E _ _ _ _ _ 0 [(0, rf E a0), (1, .long a1), (3, .long a3)] [] h0 _
  refine aw_aload_n (pc := 0) C dX1_isAnswer_0 rfl 0 rfl ?_
  refine aw_lload_n (pc := 1) C dX1_isAnswer_1 rfl 1 rfl ?_
  refine aw_lload_n (pc := 2) C dX1_isAnswer_2 rfl 2 rfl ?_
  refine aw_callVI (pc := 3) (R := rmX1_isAnswer) (c := 1) (As := [.long a1, .long a3]) (rest := []) (st := [.long a3, .long a1, rf E a0]) (c' := 0) (s' := 0) C hE rfl (by decide) cal_X1_hasInWindow ml_X1_33 rfl ⟨(Nat.le_of_ble_eq_true rfl), (Nat.le_of_ble_eq_true rfl)⟩ ⟨(Nat.le_of_ble_eq_true rfl), (Nat.le_of_ble_eq_true rfl)⟩ dX1_isAnswer_3 (okX1_hasInWindow E (kL K) a0 a1 a3 h0) rfl (Nat.le_of_ble_eq_true rfl) rfl rfl (fun v2 h1 eh1 => ?_)
  refine aw_if_eq (pc := 6) C 31 dX1_isAnswer_6 (by decide) (fun c8 => ?_) (fun c8 => ?_)
  · refine aw_iconst (pc := 31) (v := 0) C dX1_isAnswer_31 (by decide) ?_
    exact aw_ireturn (pc := 32) C hr rfl hz0 rfl dX1_isAnswer_32
  refine aw_aload_n (pc := 9) C dX1_isAnswer_9 rfl 0 rfl ?_
  refine aw_getR (pc := 10) C fl_X1_12 dX1_isAnswer_10 (fun v3 ev3 => ?_)
  refine aw_lload_n (pc := 13) C dX1_isAnswer_13 rfl 1 rfl ?_
  refine aw_lload_n (pc := 14) C dX1_isAnswer_14 rfl 2 rfl ?_
  refine aw_callVJ (pc := 15) (R := rmX1_isAnswer) (c := 2) (As := [.long a1, .long a3]) (rest := []) (st := [.long a3, .long a1, rf E v3]) (c' := 0) (s' := 0) C hE rfl (by decide) cal_X2_at ml_X1_37 rfl ⟨(Nat.le_of_ble_eq_true rfl), (Nat.le_of_ble_eq_true rfl)⟩ ⟨(Nat.le_of_ble_eq_true rfl), (Nat.le_of_ble_eq_true rfl)⟩ dX1_isAnswer_15 (okX2_at E (kL K) v3 a1 a3 h1) rfl (Nat.le_of_ble_eq_true rfl) rfl rfl (fun v5 h4 eh4 => ?_)
  refine aw_aload_n (pc := 18) C dX1_isAnswer_18 rfl 0 rfl ?_
  refine aw_getI (pc := 19) C fl_X1_18 dX1_isAnswer_19 (fun v6 ev6 => ?_)
  refine aw_i2l (pc := 22) C dX1_isAnswer_22 ?_
  refine aw_lcmp (pc := 23) C dX1_isAnswer_23 ?_
  refine aw_if_ne (pc := 24) C 31 dX1_isAnswer_24 (by decide) (fun c7 => ?_) (fun c7 => ?_)
  · refine aw_iconst (pc := 27) (v := 1) C dX1_isAnswer_27 (by decide) ?_
    refine aw_goto (pc := 28) C 32 dX1_isAnswer_28 (by decide) ?_
    exact aw_ireturn (pc := 32) C hr rfl hz0 rfl dX1_isAnswer_32
  refine aw_iconst (pc := 31) (v := 0) C dX1_isAnswer_31 (by decide) ?_
  exact aw_ireturn (pc := 32) C hr rfl hz0 rfl dX1_isAnswer_32
def rmX0_cellAt : Room := { frames := 1, cells := 0, slots := 0, locals := 24 }
set_option maxHeartbeats 4000000 in
set_option maxRecDepth 100000 in
theorem okX0_cellAt (E : Ev) (l : Launch) (a0 : Nat) (a1 : Int32) (a2 : Int32) (h0 : Mem) : AMet E l yX0_cellAt cX0_cellAt 3 (some (.int)) rmX0_cellAt [rf E a0, .int a1, .int a2] h0 rvI (fX0_cellAt a0 a1 a2 h0) := by
  refine am_intro (plainFor_of_name (by decide +kernel)) (Nat.le_of_ble_eq_true rfl) (fun K hKl C hr hnm hz0 => ?_)
  replace C : CxOK K E RX0 cX0_cellAt 3 := C
  have hE : E.1 + 1 ≤ (kS K).heap.size := by omega
  unfold fX0_cellAt
  show Aw K E _ _ _ _ _ 0 [(0, rf E a0), (1, .int a1), (2, .int a2)] [] h0 _
  refine aw_aload_n (pc := 0) C dX0_cellAt_0 rfl 0 rfl ?_
  refine aw_getR (pc := 1) C fl_X0_28 dX0_cellAt_1 (fun v1 ev1 => ?_)
  refine aw_iload_n (pc := 4) C dX0_cellAt_4 rfl 1 rfl ?_
  refine aw_i2l (pc := 5) C dX0_cellAt_5 ?_
  refine aw_iload_n (pc := 6) C dX0_cellAt_6 rfl 2 rfl ?_
  refine aw_i2l (pc := 7) C dX0_cellAt_7 ?_
  refine aw_callVI (pc := 8) (R := rmX0_cellAt) (c := 1) (As := [.long a1.toInt64, .long a2.toInt64]) (rest := []) (st := [.long a2.toInt64, .long a1.toInt64, rf E v1]) (c' := 0) (s' := 0) C hE rfl (by decide) cal_X1_hasInWindow ml_X0_79 rfl ⟨(Nat.le_of_ble_eq_true rfl), (Nat.le_of_ble_eq_true rfl)⟩ ⟨(Nat.le_of_ble_eq_true rfl), (Nat.le_of_ble_eq_true rfl)⟩ dX0_cellAt_8 (okX1_hasInWindow E (kL K) v1 a1.toInt64 a2.toInt64 h0) rfl (Nat.le_of_ble_eq_true rfl) rfl rfl (fun v3 h2 eh2 => ?_)
  refine aw_if_eq (pc := 11) C 29 dX0_cellAt_11 (by decide) (fun c4 => ?_) (fun c4 => ?_)
  · refine aw_iconst (pc := 29) (v := (-1)) C dX0_cellAt_29 (by decide) ?_
    exact aw_ireturn (pc := 30) C hr rfl hz0 rfl dX0_cellAt_30
  refine aw_iload_n (pc := 14) C dX0_cellAt_14 rfl 1 rfl ?_
  refine aw_bipush (pc := 15) (v := 40) C dX0_cellAt_15 (by decide) ?_
  refine aw_iadd (pc := 17) C dX0_cellAt_17 ?_
  refine aw_bipush (pc := 18) (v := 81) C dX0_cellAt_18 (by decide) ?_
  refine aw_imul (pc := 20) C dX0_cellAt_20 ?_
  refine aw_iload_n (pc := 21) C dX0_cellAt_21 rfl 2 rfl ?_
  refine aw_iadd (pc := 22) C dX0_cellAt_22 ?_
  refine aw_bipush (pc := 23) (v := 40) C dX0_cellAt_23 (by decide) ?_
  refine aw_iadd (pc := 25) C dX0_cellAt_25 ?_
  refine aw_goto (pc := 26) C 30 dX0_cellAt_26 (by decide) ?_
  exact aw_ireturn (pc := 30) C hr rfl hz0 rfl dX0_cellAt_30
