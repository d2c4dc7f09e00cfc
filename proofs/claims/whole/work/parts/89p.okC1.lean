def rmX2_isMove : Room := { frames := 0, cells := 0, slots := 0, locals := 0 }
set_option maxHeartbeats 4000000 in
set_option maxRecDepth 100000 in
theorem okX2_isMove (E : Ev) (l : Launch) (a0 : Int32) (h0 : Mem) : AMet E l yX2_isMove cX2_isMove 1 (some (.boolean)) rmX2_isMove [.int a0] h0 rvI (fX2_isMove a0 h0) := by
  refine am_intro (plainFor_of_name (by decide +kernel)) (Nat.le_of_ble_eq_true rfl) (fun K hKl C hr hnm hz0 => ?_)
  replace C : CxOK K E RX2 cX2_isMove 1 := C
  have hE : E.1 + 1 ≤ (kS K).heap.size := by omega
  unfold fX2_isMove
  show Aw K E _ _ _ _ _ 0 [(0, .int a0)] [] h0 _
  refine aw_iload_n (pc := 0) C dX2_isMove_0 rfl 0 rfl ?_
  refine aw_if_lt (pc := 1) C 13 dX2_isMove_1 (by decide) (fun c2 => ?_) (fun c2 => ?_)
  · refine aw_iconst (pc := 13) (v := 0) C dX2_isMove_13 (by decide) ?_
    exact aw_ireturn (pc := 14) C hr rfl hz0 rfl dX2_isMove_14
  refine aw_iload_n (pc := 4) C dX2_isMove_4 rfl 0 rfl ?_
  refine aw_iconst (pc := 5) (v := 5) C dX2_isMove_5 (by decide) ?_
  refine aw_icmp_ge (pc := 6) C 13 dX2_isMove_6 (by decide) (fun c1 => ?_) (fun c1 => ?_)
  · refine aw_iconst (pc := 13) (v := 0) C dX2_isMove_13 (by decide) ?_
    exact aw_ireturn (pc := 14) C hr rfl hz0 rfl dX2_isMove_14
  refine aw_iconst (pc := 9) (v := 1) C dX2_isMove_9 (by decide) ?_
  refine aw_goto (pc := 10) C 14 dX2_isMove_10 (by decide) ?_
  exact aw_ireturn (pc := 14) C hr rfl hz0 rfl dX2_isMove_14
def rmJ7_fill_d0a16 : Room := { frames := 0, cells := 0, slots := 0, locals := 0 }
set_option maxHeartbeats 4000000 in
set_option maxRecDepth 100000 in
theorem okJ7_fill_d0a16 (E : Ev) (l : Launch) (a0 : Nat) (a1 : Int64) (h0 : Mem) : AMet E l yJ7_fill_d0a16 cJ7_fill_d0a16 5 none rmJ7_fill_d0a16 [rf E a0, .long a1] h0 rvV (fJ7_fill_d0a16 a0 a1 h0) := by
  refine am_intro (plainFor_of_name (by decide +kernel)) (Nat.le_of_ble_eq_true rfl) (fun K hKl C hr hnm hz0 => ?_)
  replace C : CxOK K E RJ7 cJ7_fill_d0a16 5 := C
  have hE : E.1 + 1 ≤ (kS K).heap.size := by omega
  unfold fJ7_fill_d0a16
  show Aw K E _ _ _ _ _ 0 [(0, rf E a0), (1, .long a1)] [] h0 _
  refine aw_iconst (pc := 0) (v := 0) C dJ7_fill_d0a16_0 (by decide) ?_
  refine aw_istore_n (pc := 1) (L' := [(3, .int 0), (0, rf E a0), (1, .long a1)]) C dJ7_fill_d0a16_1 rfl (by decide) rfl ?_
  refine aw_aload_n (pc := 2) C dJ7_fill_d0a16_2 rfl 1 rfl ?_
  refine aw_arraylength (pc := 3) C dJ7_fill_d0a16_3 (fun v1 ev1 => ?_)
  refine aw_istore (pc := 4) (L' := [(4, .int v1), (3, .int 0), (0, rf E a0), (1, .long a1)]) C dJ7_fill_d0a16_4 (by decide) rfl ?_
  refine aw_sub (L' := [(0, rf E a0), (1, .long a1), (3, .int 0), (4, .int v1)]) [2, 3, 1, 0] rfl ?_
  refine aw_loop (pc := 6) (σ := Int32 × Mem) (fun s => [(0, rf E a0), (1, .long a1), (3, .int s.1), (4, .int v1)]) (fun s => s.2) _ (fun k4 ih5 s => ?_) _ _
  obtain ⟨v2, h3⟩ := s
  show Aw K E _ _ _ _ _ 6 [(0, rf E a0), (1, .long a1), (3, .int v2), (4, .int v1)] [] h3 _
  refine aw_iload_n (pc := 6) C dJ7_fill_d0a16_6 rfl 2 rfl ?_
  refine aw_iload (pc := 7) C dJ7_fill_d0a16_7 3 rfl ?_
  refine aw_icmp_ge (pc := 9) C 22 dJ7_fill_d0a16_9 (by decide) (fun c8 => ?_) (fun c8 => ?_)
  · exact aw_return (pc := 22) C hr hz0 rfl dJ7_fill_d0a16_22
  refine aw_aload_n (pc := 12) C dJ7_fill_d0a16_12 rfl 0 rfl ?_
  refine aw_iload_n (pc := 13) C dJ7_fill_d0a16_13 rfl 2 rfl ?_
  refine aw_lload_n (pc := 14) C dJ7_fill_d0a16_14 rfl 1 rfl ?_
  refine aw_lastore (pc := 15) C dJ7_fill_d0a16_15 (fun h6 eh6 => ?_)
  refine aw_iincN (pc := 16) (L1 := [(0, rf E a0), (1, .long a1), (4, .int v1)]) (k := 1) C dJ7_fill_d0a16_16 2 rfl (by decide) (by decide) rfl (fun v7 ev7 => ?_)
  refine aw_goto (pc := 19) C 6 dJ7_fill_d0a16_19 (by decide) ?_
  exact aw_sub (L' := [(0, rf E a0), (1, .long a1), (3, .int v7), (4, .int v1)]) [1, 2, 0, 3] rfl (ih5 (v7, h6))
def rmX2_multiply : Room := { frames := 0, cells := 0, slots := 0, locals := 0 }
set_option maxHeartbeats 4000000 in
set_option maxRecDepth 100000 in
theorem okX2_multiply (E : Ev) (l : Launch) (a0 : Nat) (a1 : Int32) (a2 : Int32) (h0 : Mem) : AMet E l yX2_multiply cX2_multiply 4 none rmX2_multiply [rf E a0, .int a1, .int a2] h0 rvV (fX2_multiply a0 a1 a2 h0) := by
  refine am_intro (plainFor_of_name (by decide +kernel)) (Nat.le_of_ble_eq_true rfl) (fun K hKl C hr hnm hz0 => ?_)
  replace C : CxOK K E RX2 cX2_multiply 4 := C
  have hE : E.1 + 1 ≤ (kS K).heap.size := by omega
  unfold fX2_multiply
  show Aw K E _ _ _ _ _ 0 [(0, rf E a0), (1, .int a1), (2, .int a2)] [] h0 _
  refine aw_aload_n (pc := 0) C dX2_multiply_0 rfl 0 rfl ?_
  refine aw_arraylength (pc := 1) C dX2_multiply_1 (fun v1 ev1 => ?_)
  refine aw_iconst (pc := 2) (v := 1) C dX2_multiply_2 (by decide) ?_
  refine aw_isub (pc := 3) C dX2_multiply_3 ?_
  refine aw_nmI (pc := 4) (fun v2 ev2 => ?_)
  refine aw_istore_n (pc := 4) (L' := [(3, .int v2), (0, rf E a0), (1, .int a1), (2, .int a2)]) C dX2_multiply_4 rfl (by decide) rfl ?_
  refine aw_sub (L' := [(0, rf E a0), (1, .int a1), (2, .int a2), (3, .int v2)]) [1, 2, 3, 0] rfl ?_
  refine aw_loop (pc := 5) (σ := Int32 × Mem) (fun s => [(0, rf E a0), (1, .int a1), (2, .int a2), (3, .int s.1)]) (fun s => s.2) _ (fun k5 ih6 s => ?_) _ _
  obtain ⟨v3, h4⟩ := s
  show Aw K E _ _ _ _ _ 5 [(0, rf E a0), (1, .int a1), (2, .int a2), (3, .int v3)] [] h4 _
  refine aw_iload_n (pc := 5) C dX2_multiply_5 rfl 3 rfl ?_
  refine aw_if_le (pc := 6) C 33 dX2_multiply_6 (by decide) (fun c13 => ?_) (fun c13 => ?_)
  · refine aw_aload_n (pc := 33) C dX2_multiply_33 rfl 0 rfl ?_
    refine aw_iconst (pc := 34) (v := 0) C dX2_multiply_34 (by decide) ?_
    refine aw_iload_n (pc := 35) C dX2_multiply_35 rfl 1 rfl ?_
    refine aw_i2l (pc := 36) C dX2_multiply_36 ?_
    refine aw_aload_n (pc := 37) C dX2_multiply_37 rfl 0 rfl ?_
    refine aw_iconst (pc := 38) (v := 0) C dX2_multiply_38 (by decide) ?_
    refine aw_laload (pc := 39) C dX2_multiply_39 (fun v11 ev11 => ?_)
    refine aw_lmul (pc := 40) C dX2_multiply_40 ?_
    refine aw_lastore (pc := 41) C dX2_multiply_41 (fun h12 eh12 => ?_)
    exact aw_return (pc := 42) C hr hz0 rfl dX2_multiply_42
  refine aw_aload_n (pc := 9) C dX2_multiply_9 rfl 0 rfl ?_
  refine aw_iload_n (pc := 10) C dX2_multiply_10 rfl 3 rfl ?_
  refine aw_iload_n (pc := 11) C dX2_multiply_11 rfl 1 rfl ?_
  refine aw_i2l (pc := 12) C dX2_multiply_12 ?_
  refine aw_aload_n (pc := 13) C dX2_multiply_13 rfl 0 rfl ?_
  refine aw_iload_n (pc := 14) C dX2_multiply_14 rfl 3 rfl ?_
  refine aw_laload (pc := 15) C dX2_multiply_15 (fun v7 ev7 => ?_)
  refine aw_lmul (pc := 16) C dX2_multiply_16 ?_
  refine aw_iload_n (pc := 17) C dX2_multiply_17 rfl 2 rfl ?_
  refine aw_i2l (pc := 18) C dX2_multiply_18 ?_
  refine aw_aload_n (pc := 19) C dX2_multiply_19 rfl 0 rfl ?_
  refine aw_iload_n (pc := 20) C dX2_multiply_20 rfl 3 rfl ?_
  refine aw_iconst (pc := 21) (v := 1) C dX2_multiply_21 (by decide) ?_
  refine aw_isub (pc := 22) C dX2_multiply_22 ?_
  refine aw_laload (pc := 23) C dX2_multiply_23 (fun v8 ev8 => ?_)
  refine aw_lmul (pc := 24) C dX2_multiply_24 ?_
  refine aw_ladd (pc := 25) C dX2_multiply_25 ?_
  refine aw_lastore (pc := 26) C dX2_multiply_26 (fun h9 eh9 => ?_)
  refine aw_iincN (pc := 27) (L1 := [(0, rf E a0), (1, .int a1), (2, .int a2)]) (k := (-1)) C dX2_multiply_27 3 rfl (by decide) (by decide) rfl (fun v10 ev10 => ?_)
  refine aw_goto (pc := 30) C 5 dX2_multiply_30 (by decide) ?_
  exact aw_sub (L' := [(0, rf E a0), (1, .int a1), (2, .int a2), (3, .int v10)]) [1, 2, 3, 0] rfl (ih6 (v10, h9))
def rmX2_findTurned : Room := { frames := 1, cells := 0, slots := 0, locals := 24 }
set_option maxHeartbeats 4000000 in
set_option maxRecDepth 100000 in
theorem okX2_findTurned (E : Ev) (l : Launch) (a0 : Nat) (a1 : Int32) (a2 : Int32) (a3 : Int32) (a4 : Int32) (h0 : Mem) : AMet E l yX2_findTurned cX2_findTurned 7 none rmX2_findTurned [rf E a0, .int a1, .int a2, .int a3, .int a4] h0 rvV (fX2_findTurned a0 a1 a2 a3 a4 h0) := by
  refine am_intro (plainFor_of_name (by decide +kernel)) (Nat.le_of_ble_eq_true rfl) (fun K hKl C hr hnm hz0 => ?_)
  replace C : CxOK K E RX2 cX2_findTurned 7 := C
  have hE : E.1 + 1 ≤ (kS K).heap.size := by omega
  unfold fX2_findTurned
  show Aw K E _ _ _ _ _ 0 [(0, rf E a0), (1, .int a1), (2, .int a2), (3, .int a3), (4, .int a4)] [] h0 _
  refine aw_aload_n (pc := 0) C dX2_findTurned_0 rfl 0 rfl ?_
  refine aw_getR (pc := 1) C fl_X2_19 dX2_findTurned_1 (fun v1 ev1 => ?_)
  refine aw_lconst (pc := 4) (v := 0) C dX2_findTurned_4 (by decide) ?_
  refine aw_callSV (pc := 5) (R := rmX2_findTurned) (As := [rf E v1, .long 0]) (rest := []) (st := [.long 0, rf E v1]) (c' := 0) (s' := 0) C hE cal_J7_fill_d0a16 ml_X2_82 rfl ⟨(Nat.le_of_ble_eq_true rfl), (Nat.le_of_ble_eq_true rfl)⟩ ⟨(Nat.le_of_ble_eq_true rfl), (Nat.le_of_ble_eq_true rfl)⟩ dX2_findTurned_5 (okJ7_fill_d0a16 E (kL K) v1 0 h0) rfl (Nat.le_of_ble_eq_true rfl) rfl rfl (fun _u h2 eh2 => ?_)
  refine aw_aload_n (pc := 8) C dX2_findTurned_8 rfl 0 rfl ?_
  refine aw_getR (pc := 9) C fl_X2_23 dX2_findTurned_9 (fun v3 ev3 => ?_)
  refine aw_lconst (pc := 12) (v := 0) C dX2_findTurned_12 (by decide) ?_
  refine aw_callSV (pc := 13) (R := rmX2_findTurned) (As := [rf E v3, .long 0]) (rest := []) (st := [.long 0, rf E v3]) (c' := 0) (s' := 0) C hE cal_J7_fill_d0a16 ml_X2_82 rfl ⟨(Nat.le_of_ble_eq_true rfl), (Nat.le_of_ble_eq_true rfl)⟩ ⟨(Nat.le_of_ble_eq_true rfl), (Nat.le_of_ble_eq_true rfl)⟩ dX2_findTurned_13 (okJ7_fill_d0a16 E (kL K) v3 0 h2) rfl (Nat.le_of_ble_eq_true rfl) rfl rfl (fun _u h4 eh4 => ?_)
  refine aw_aload_n (pc := 16) C dX2_findTurned_16 rfl 0 rfl ?_
  refine aw_getR (pc := 17) C fl_X2_19 dX2_findTurned_17 (fun v5 ev5 => ?_)
  refine aw_iconst (pc := 20) (v := 0) C dX2_findTurned_20 (by decide) ?_
  refine aw_aload_n (pc := 21) C dX2_findTurned_21 rfl 0 rfl ?_
  refine aw_getR (pc := 22) C fl_X2_15 dX2_findTurned_22 (fun v6 ev6 => ?_)
  refine aw_iconst (pc := 25) (v := 0) C dX2_findTurned_25 (by decide) ?_
  refine aw_iaload (pc := 26) C dX2_findTurned_26 (fun v7 ev7 => ?_)
  refine aw_i2l (pc := 27) C dX2_findTurned_27 ?_
  refine aw_lastore (pc := 28) C dX2_findTurned_28 (fun h8 eh8 => ?_)
  refine aw_aload_n (pc := 29) C dX2_findTurned_29 rfl 0 rfl ?_
  refine aw_getR (pc := 30) C fl_X2_23 dX2_findTurned_30 (fun v9 ev9 => ?_)
  refine aw_iconst (pc := 33) (v := 0) C dX2_findTurned_33 (by decide) ?_
  refine aw_lconst (pc := 34) (v := 1) C dX2_findTurned_34 (by decide) ?_
  refine aw_lastore (pc := 35) C dX2_findTurned_35 (fun h10 eh10 => ?_)
  refine aw_iconst (pc := 36) (v := 1) C dX2_findTurned_36 (by decide) ?_
  refine aw_istore (pc := 37) (L' := [(5, .int 1), (0, rf E a0), (1, .int a1), (2, .int a2), (3, .int a3), (4, .int a4)]) C dX2_findTurned_37 (by decide) rfl ?_
  refine aw_sub (L' := [(0, rf E a0), (1, .int a1), (2, .int a2), (3, .int a3), (4, .int a4), (5, .int 1)]) [1, 2, 3, 4, 5, 0] rfl ?_
  refine aw_loop (pc := 39) (σ := Int32 × Mem) (fun s => [(0, rf E a0), (1, .int a1), (2, .int a2), (3, .int a3), (4, .int a4), (5, .int s.1)]) (fun s => s.2) _ (fun k13 ih14 s => ?_) _ _
  obtain ⟨v11, h12⟩ := s
  show Aw K E _ _ _ _ _ 39 [(0, rf E a0), (1, .int a1), (2, .int a2), (3, .int a3), (4, .int a4), (5, .int v11)] [] h12 _
  refine aw_iload (pc := 39) C dX2_findTurned_39 5 rfl ?_
  refine aw_aload_n (pc := 41) C dX2_findTurned_41 rfl 0 rfl ?_
  refine aw_getI (pc := 42) C fl_X2_9 dX2_findTurned_42 (fun v15 ev15 => ?_)
  refine aw_icmp_gt (pc := 45) C 138 dX2_findTurned_45 (by decide) (fun c43 => ?_) (fun c43 => ?_)
  · exact aw_return (pc := 138) C hr hz0 rfl dX2_findTurned_138
  refine aw_iload (pc := 48) C dX2_findTurned_48 5 rfl ?_
  refine aw_aload_n (pc := 50) C dX2_findTurned_50 rfl 0 rfl ?_
  refine aw_getR (pc := 51) C fl_X2_15 dX2_findTurned_51 (fun v16 ev16 => ?_)
  refine aw_arraylength (pc := 54) C dX2_findTurned_54 (fun v17 ev17 => ?_)
  refine aw_icmp_ge (pc := 55) C 138 dX2_findTurned_55 (by decide) (fun c42 => ?_) (fun c42 => ?_)
  · exact aw_return (pc := 138) C hr hz0 rfl dX2_findTurned_138
  refine aw_aload_n (pc := 58) C dX2_findTurned_58 rfl 0 rfl ?_
  refine aw_getR (pc := 59) C fl_X2_23 dX2_findTurned_59 (fun v18 ev18 => ?_)
  refine aw_iload_n (pc := 62) C dX2_findTurned_62 rfl 3 rfl ?_
  refine aw_iload (pc := 63) C dX2_findTurned_63 4 rfl ?_
  refine aw_callSV (pc := 65) (R := rmX2_findTurned) (As := [rf E v18, .int a3, .int a4]) (rest := []) (st := [.int a4, .int a3, rf E v18]) (c' := 0) (s' := 0) C hE cal_X2_multiply ml_X2_85 rfl ⟨(Nat.le_of_ble_eq_true rfl), (Nat.le_of_ble_eq_true rfl)⟩ ⟨(Nat.le_of_ble_eq_true rfl), (Nat.le_of_ble_eq_true rfl)⟩ dX2_findTurned_65 (okX2_multiply E (kL K) v18 a3 a4 h12) rfl (Nat.le_of_ble_eq_true rfl) rfl rfl (fun _u h19 eh19 => ?_)
  refine aw_aload_n (pc := 68) C dX2_findTurned_68 rfl 0 rfl ?_
  refine aw_getR (pc := 69) C fl_X2_19 dX2_findTurned_69 (fun v20 ev20 => ?_)
  refine aw_iload_n (pc := 72) C dX2_findTurned_72 rfl 1 rfl ?_
  refine aw_iload_n (pc := 73) C dX2_findTurned_73 rfl 2 rfl ?_
  refine aw_callSV (pc := 74) (R := rmX2_findTurned) (As := [rf E v20, .int a1, .int a2]) (rest := []) (st := [.int a2, .int a1, rf E v20]) (c' := 0) (s' := 0) C hE cal_X2_multiply ml_X2_85 rfl ⟨(Nat.le_of_ble_eq_true rfl), (Nat.le_of_ble_eq_true rfl)⟩ ⟨(Nat.le_of_ble_eq_true rfl), (Nat.le_of_ble_eq_true rfl)⟩ dX2_findTurned_74 (okX2_multiply E (kL K) v20 a1 a2 h19) rfl (Nat.le_of_ble_eq_true rfl) rfl rfl (fun _u h21 eh21 => ?_)
  refine aw_iconst (pc := 77) (v := 0) C dX2_findTurned_77 (by decide) ?_
  refine aw_istore (pc := 78) (L' := [(6, .int 0), (0, rf E a0), (1, .int a1), (2, .int a2), (3, .int a3), (4, .int a4), (5, .int v11)]) C dX2_findTurned_78 (by decide) rfl ?_
  refine aw_sub (L' := [(0, rf E a0), (1, .int a1), (2, .int a2), (3, .int a3), (4, .int a4), (5, .int v11), (6, .int 0)]) [1, 2, 3, 4, 5, 6, 0] rfl ?_
  refine aw_loop (pc := 80) (σ := Int32 × Mem) (fun s => [(0, rf E a0), (1, .int a1), (2, .int a2), (3, .int a3), (4, .int a4), (5, .int v11), (6, .int s.1)]) (fun s => s.2) _ (fun k24 ih25 s => ?_) _ _
  obtain ⟨v22, h23⟩ := s
  show Aw K E _ _ _ _ _ 80 [(0, rf E a0), (1, .int a1), (2, .int a2), (3, .int a3), (4, .int a4), (5, .int v11), (6, .int v22)] [] h23 _
  refine aw_iload (pc := 80) C dX2_findTurned_80 6 rfl ?_
  refine aw_aload_n (pc := 82) C dX2_findTurned_82 rfl 0 rfl ?_
  refine aw_getR (pc := 83) C fl_X2_19 dX2_findTurned_83 (fun v26 ev26 => ?_)
  refine aw_arraylength (pc := 86) C dX2_findTurned_86 (fun v27 ev27 => ?_)
  refine aw_icmp_ge (pc := 87) C 132 dX2_findTurned_87 (by decide) (fun c41 => ?_) (fun c41 => ?_)
  · refine aw_iincN (pc := 132) (L1 := [(0, rf E a0), (1, .int a1), (2, .int a2), (3, .int a3), (4, .int a4), (6, .int v22)]) (k := 1) C dX2_findTurned_132 5 rfl (by decide) (by decide) rfl (fun v40 ev40 => ?_)
    refine aw_goto (pc := 135) C 39 dX2_findTurned_135 (by decide) ?_
    exact aw_sub (L' := [(0, rf E a0), (1, .int a1), (2, .int a2), (3, .int a3), (4, .int a4), (5, .int v40)]) [1, 2, 3, 4, 5, 0] rfl (ih14 (v40, h23))
  refine aw_iload (pc := 90) C dX2_findTurned_90 6 rfl ?_
  refine aw_aload_n (pc := 92) C dX2_findTurned_92 rfl 0 rfl ?_
  refine aw_getR (pc := 93) C fl_X2_23 dX2_findTurned_93 (fun v28 ev28 => ?_)
  refine aw_arraylength (pc := 96) C dX2_findTurned_96 (fun v29 ev29 => ?_)
  refine aw_icmp_ge (pc := 97) C 132 dX2_findTurned_97 (by decide) (fun c39 => ?_) (fun c39 => ?_)
  · refine aw_iincN (pc := 132) (L1 := [(0, rf E a0), (1, .int a1), (2, .int a2), (3, .int a3), (4, .int a4), (6, .int v22)]) (k := 1) C dX2_findTurned_132 5 rfl (by decide) (by decide) rfl (fun v38 ev38 => ?_)
    refine aw_goto (pc := 135) C 39 dX2_findTurned_135 (by decide) ?_
    exact aw_sub (L' := [(0, rf E a0), (1, .int a1), (2, .int a2), (3, .int a3), (4, .int a4), (5, .int v38)]) [1, 2, 3, 4, 5, 0] rfl (ih14 (v38, h23))
  refine aw_aload_n (pc := 100) C dX2_findTurned_100 rfl 0 rfl ?_
  refine aw_getR (pc := 101) C fl_X2_19 dX2_findTurned_101 (fun v30 ev30 => ?_)
  refine aw_iload (pc := 104) C dX2_findTurned_104 6 rfl ?_
  refine aw_dup2 (pc := 106) C rfl rfl dX2_findTurned_106 ?_
  refine aw_laload (pc := 107) C dX2_findTurned_107 (fun v31 ev31 => ?_)
  refine aw_aload_n (pc := 108) C dX2_findTurned_108 rfl 0 rfl ?_
  refine aw_getR (pc := 109) C fl_X2_15 dX2_findTurned_109 (fun v32 ev32 => ?_)
  refine aw_iload (pc := 112) C dX2_findTurned_112 5 rfl ?_
  refine aw_iaload (pc := 114) C dX2_findTurned_114 (fun v33 ev33 => ?_)
  refine aw_i2l (pc := 115) C dX2_findTurned_115 ?_
  refine aw_aload_n (pc := 116) C dX2_findTurned_116 rfl 0 rfl ?_
  refine aw_getR (pc := 117) C fl_X2_23 dX2_findTurned_117 (fun v34 ev34 => ?_)
  refine aw_iload (pc := 120) C dX2_findTurned_120 6 rfl ?_
  refine aw_laload (pc := 122) C dX2_findTurned_122 (fun v35 ev35 => ?_)
  refine aw_lmul (pc := 123) C dX2_findTurned_123 ?_
  refine aw_ladd (pc := 124) C dX2_findTurned_124 ?_
  refine aw_lastore (pc := 125) C dX2_findTurned_125 (fun h36 eh36 => ?_)
  refine aw_iincN (pc := 126) (L1 := [(0, rf E a0), (1, .int a1), (2, .int a2), (3, .int a3), (4, .int a4), (5, .int v11)]) (k := 1) C dX2_findTurned_126 6 rfl (by decide) (by decide) rfl (fun v37 ev37 => ?_)
  refine aw_goto (pc := 129) C 80 dX2_findTurned_129 (by decide) ?_
  exact aw_sub (L' := [(0, rf E a0), (1, .int a1), (2, .int a2), (3, .int a3), (4, .int a4), (5, .int v11), (6, .int v37)]) [1, 2, 3, 4, 5, 6, 0] rfl (ih25 (v37, h36))
def rmX2_turnBy : Room := { frames := 2, cells := 0, slots := 0, locals := 50 }
set_option maxHeartbeats 4000000 in
set_option maxRecDepth 100000 in
theorem okX2_turnBy (E : Ev) (l : Launch) (a0 : Nat) (a1 : Int32) (a2 : Int32) (a3 : Int32) (a4 : Int32) (h0 : Mem) : AMet E l yX2_turnBy cX2_turnBy 6 (some (.boolean)) rmX2_turnBy [rf E a0, .int a1, .int a2, .int a3, .int a4] h0 rvI (fX2_turnBy a0 a1 a2 a3 a4 h0) := by
  refine am_intro (plainFor_of_name (by decide +kernel)) (Nat.le_of_ble_eq_true rfl) (fun K hKl C hr hnm hz0 => ?_)
  replace C : CxOK K E RX2 cX2_turnBy 6 := C
  have hE : E.1 + 1 ≤ (kS K).heap.size := by omega
  unfold fX2_turnBy
  show Aw K E _ _ _ _ _ 0 [(0, rf E a0), (1, .int a1), (2, .int a2), (3, .int a3), (4, .int a4)] [] h0 _
  refine aw_aload_n (pc := 0) C dX2_turnBy_0 rfl 0 rfl ?_
  refine aw_iload_n (pc := 1) C dX2_turnBy_1 rfl 1 rfl ?_
  refine aw_iload_n (pc := 2) C dX2_turnBy_2 rfl 2 rfl ?_
  refine aw_iload_n (pc := 3) C dX2_turnBy_3 rfl 3 rfl ?_
  refine aw_iload (pc := 4) C dX2_turnBy_4 4 rfl ?_
  refine aw_callVV (pc := 6) (R := rmX2_turnBy) (c := 2) (As := [.int a1, .int a2, .int a3, .int a4]) (rest := []) (st := [.int a4, .int a3, .int a2, .int a1, rf E a0]) (c' := 0) (s' := 0) C hE rfl (by decide) cal_X2_findTurned ml_X2_74 rfl ⟨(Nat.le_of_ble_eq_true rfl), (Nat.le_of_ble_eq_true rfl)⟩ ⟨(Nat.le_of_ble_eq_true rfl), (Nat.le_of_ble_eq_true rfl)⟩ dX2_turnBy_6 (okX2_findTurned E (kL K) a0 a1 a2 a3 a4 h0) rfl (Nat.le_of_ble_eq_true rfl) rfl rfl (fun _u h1 eh1 => ?_)
  refine aw_iconst (pc := 9) (v := 0) C dX2_turnBy_9 (by decide) ?_
  refine aw_istore (pc := 10) (L' := [(5, .int 0), (0, rf E a0), (1, .int a1), (2, .int a2), (3, .int a3), (4, .int a4)]) C dX2_turnBy_10 (by decide) rfl ?_
  refine aw_sub (L' := [(0, rf E a0), (5, .int 0)]) [1, 0] rfl ?_
  refine aw_loop (pc := 12) (σ := Int32) (fun s => [(0, rf E a0), (5, .int s)]) (fun s => h1) _ (fun k3 ih4 s => ?_) _ _
  generalize s = v2
  show Aw K E _ _ _ _ _ 12 [(0, rf E a0), (5, .int v2)] [] h1 _
  refine aw_iload (pc := 12) C dX2_turnBy_12 1 rfl ?_
  refine aw_aload_n (pc := 14) C dX2_turnBy_14 rfl 0 rfl ?_
  refine aw_getR (pc := 15) C fl_X2_19 dX2_turnBy_15 (fun v5 ev5 => ?_)
  refine aw_arraylength (pc := 18) C dX2_turnBy_18 (fun v6 ev6 => ?_)
  refine aw_icmp_ge (pc := 19) C 58 dX2_turnBy_19 (by decide) (fun c29 => ?_) (fun c29 => ?_)
  · refine aw_iconst (pc := 58) (v := 0) C dX2_turnBy_58 (by decide) ?_
    refine aw_istore (pc := 59) (L' := [(5, .int 0), (0, rf E a0)]) C dX2_turnBy_59 (by decide) rfl ?_
    refine aw_sub (L' := [(0, rf E a0), (5, .int 0)]) [1, 0] rfl ?_
    refine aw_loop (pc := 61) (σ := Int32 × Mem) (fun s => [(0, rf E a0), (5, .int s.1)]) (fun s => s.2) _ (fun k16 ih17 s => ?_) _ _
    obtain ⟨v14, h15⟩ := s
    show Aw K E _ _ _ _ _ 61 [(0, rf E a0), (5, .int v14)] [] h15 _
    refine aw_iload (pc := 61) C dX2_turnBy_61 1 rfl ?_
    refine aw_aload_n (pc := 63) C dX2_turnBy_63 rfl 0 rfl ?_
    refine aw_getR (pc := 64) C fl_X2_19 dX2_turnBy_64 (fun v18 ev18 => ?_)
    refine aw_arraylength (pc := 67) C dX2_turnBy_67 (fun v19 ev19 => ?_)
    refine aw_icmp_ge (pc := 68) C 102 dX2_turnBy_68 (by decide) (fun c28 => ?_) (fun c28 => ?_)
    · refine aw_iconst (pc := 102) (v := 1) C dX2_turnBy_102 (by decide) ?_
      exact aw_ireturn (pc := 103) C hr rfl hz0 rfl dX2_turnBy_103
    refine aw_iload (pc := 71) C dX2_turnBy_71 1 rfl ?_
    refine aw_aload_n (pc := 73) C dX2_turnBy_73 rfl 0 rfl ?_
    refine aw_getR (pc := 74) C fl_X2_15 dX2_turnBy_74 (fun v20 ev20 => ?_)
    refine aw_arraylength (pc := 77) C dX2_turnBy_77 (fun v21 ev21 => ?_)
    refine aw_icmp_ge (pc := 78) C 102 dX2_turnBy_78 (by decide) (fun c27 => ?_) (fun c27 => ?_)
    · refine aw_iconst (pc := 102) (v := 1) C dX2_turnBy_102 (by decide) ?_
      exact aw_ireturn (pc := 103) C hr rfl hz0 rfl dX2_turnBy_103
    refine aw_aload_n (pc := 81) C dX2_turnBy_81 rfl 0 rfl ?_
    refine aw_getR (pc := 82) C fl_X2_15 dX2_turnBy_82 (fun v22 ev22 => ?_)
    refine aw_iload (pc := 85) C dX2_turnBy_85 1 rfl ?_
    refine aw_aload_n (pc := 87) C dX2_turnBy_87 rfl 0 rfl ?_
    refine aw_getR (pc := 88) C fl_X2_19 dX2_turnBy_88 (fun v23 ev23 => ?_)
    refine aw_iload (pc := 91) C dX2_turnBy_91 1 rfl ?_
    refine aw_laload (pc := 93) C dX2_turnBy_93 (fun v24 ev24 => ?_)
    refine aw_l2i (pc := 94) C dX2_turnBy_94 ?_
    refine aw_iastore (pc := 95) C dX2_turnBy_95 (fun h25 eh25 => ?_)
    refine aw_iincN (pc := 96) (L1 := [(0, rf E a0)]) (k := 1) C dX2_turnBy_96 1 rfl (by decide) (by decide) rfl (fun v26 ev26 => ?_)
    refine aw_goto (pc := 99) C 61 dX2_turnBy_99 (by decide) ?_
    exact aw_sub (L' := [(0, rf E a0), (5, .int v26)]) [1, 0] rfl (ih17 (v26, h25))
  refine aw_aload_n (pc := 22) C dX2_turnBy_22 rfl 0 rfl ?_
  refine aw_getR (pc := 23) C fl_X2_19 dX2_turnBy_23 (fun v7 ev7 => ?_)
  refine aw_iload (pc := 26) C dX2_turnBy_26 1 rfl ?_
  refine aw_laload (pc := 28) C dX2_turnBy_28 (fun v8 ev8 => ?_)
  refine aw_ldc2 (pc := 29) (v := 99) C kc_X2_78 dX2_turnBy_29 ?_
  refine aw_lcmp (pc := 32) C dX2_turnBy_32 ?_
  refine aw_if_gt (pc := 33) C 50 dX2_turnBy_33 (by decide) (fun c13 => ?_) (fun c13 => ?_)
  · refine aw_iconst (pc := 50) (v := 0) C dX2_turnBy_50 (by decide) ?_
    exact aw_ireturn (pc := 51) C hr rfl hz0 rfl dX2_turnBy_51
  refine aw_aload_n (pc := 36) C dX2_turnBy_36 rfl 0 rfl ?_
  refine aw_getR (pc := 37) C fl_X2_19 dX2_turnBy_37 (fun v9 ev9 => ?_)
  refine aw_iload (pc := 40) C dX2_turnBy_40 1 rfl ?_
  refine aw_laload (pc := 42) C dX2_turnBy_42 (fun v10 ev10 => ?_)
  refine aw_ldc2 (pc := 43) (v := (-99)) C kc_X2_80 dX2_turnBy_43 ?_
  refine aw_lcmp (pc := 46) C dX2_turnBy_46 ?_
  refine aw_if_ge (pc := 47) C 52 dX2_turnBy_47 (by decide) (fun c12 => ?_) (fun c12 => ?_)
  · refine aw_iincN (pc := 52) (L1 := [(0, rf E a0)]) (k := 1) C dX2_turnBy_52 1 rfl (by decide) (by decide) rfl (fun v11 ev11 => ?_)
    refine aw_goto (pc := 55) C 12 dX2_turnBy_55 (by decide) ?_
    exact aw_sub (L' := [(0, rf E a0), (5, .int v11)]) [1, 0] rfl (ih4 v11)
  refine aw_iconst (pc := 50) (v := 0) C dX2_turnBy_50 (by decide) ?_
  exact aw_ireturn (pc := 51) C hr rfl hz0 rfl dX2_turnBy_51
def rmX2_moveBy : Room := { frames := 3, cells := 0, slots := 0, locals := 75 }
set_option maxHeartbeats 4000000 in
set_option maxRecDepth 100000 in
theorem okX2_moveBy (E : Ev) (l : Launch) (a0 : Nat) (a1 : Int32) (h0 : Mem) : AMet E l yX2_moveBy cX2_moveBy 4 (some (.boolean)) rmX2_moveBy [rf E a0, .int a1] h0 rvI (fX2_moveBy a0 a1 h0) := by
  refine am_intro (plainFor_of_name (by decide +kernel)) (Nat.le_of_ble_eq_true rfl) (fun K hKl C hr hnm hz0 => ?_)
  replace C : CxOK K E RX2 cX2_moveBy 4 := C
  have hE : E.1 + 1 ≤ (kS K).heap.size := by omega
  unfold fX2_moveBy
  show Aw K E _ _ _ _ _ 0 [(0, rf E a0), (1, .int a1)] [] h0 _
  refine aw_iload_n (pc := 0) C dX2_moveBy_0 rfl 1 rfl ?_
  refine aw_callSI (pc := 1) (R := rmX2_moveBy) (As := [.int a1]) (rest := []) (st := [.int a1]) (c' := 0) (s' := 0) C hE cal_X2_isMove ml_X2_64 rfl ⟨(Nat.le_of_ble_eq_true rfl), (Nat.le_of_ble_eq_true rfl)⟩ ⟨(Nat.le_of_ble_eq_true rfl), (Nat.le_of_ble_eq_true rfl)⟩ dX2_moveBy_1 (okX2_isMove E (kL K) a1 h0) rfl (Nat.le_of_ble_eq_true rfl) rfl rfl (fun v2 h1 eh1 => ?_)
  refine aw_if_ne (pc := 4) C 9 dX2_moveBy_4 (by decide) (fun c26 => ?_) (fun c26 => ?_)
  · refine aw_iconst (pc := 7) (v := 0) C dX2_moveBy_7 (by decide) ?_
    exact aw_ireturn (pc := 8) C hr rfl hz0 rfl dX2_moveBy_8
  refine aw_iload_n (pc := 9) C dX2_moveBy_9 rfl 1 rfl ?_
  refine aw_iconst (pc := 10) (v := 4) C dX2_moveBy_10 (by decide) ?_
  refine aw_imul (pc := 11) C dX2_moveBy_11 ?_
  refine aw_nmI (pc := 12) (fun v3 ev3 => ?_)
  refine aw_istore_n (pc := 12) (L' := [(2, .int v3), (0, rf E a0), (1, .int a1)]) C dX2_moveBy_12 rfl (by decide) rfl ?_
  refine aw_iload_n (pc := 13) C dX2_moveBy_13 rfl 2 rfl ?_
  refine aw_iconst (pc := 14) (v := 4) C dX2_moveBy_14 (by decide) ?_
  refine aw_jn (σ := Unit) 59 (fun s => [(0, rf E a0)]) (fun s => []) (fun s => h1) (fun s => ?_) (fun k4 jk5 => ?_)
  · show Aw K E _ _ _ _ _ 59 [(0, rf E a0)] [] h1 _
    refine aw_iconst (pc := 59) (v := 0) C dX2_moveBy_59 (by decide) ?_
    refine aw_istore_n (pc := 60) (L' := [(3, .int 0), (0, rf E a0)]) C dX2_moveBy_60 rfl (by decide) rfl ?_
    refine aw_sub (L' := [(0, rf E a0), (3, .int 0)]) [1, 0] rfl ?_
    refine aw_loop (pc := 61) (σ := Int32 × Mem) (fun s => [(0, rf E a0), (3, .int s.1)]) (fun s => s.2) _ (fun k8 ih9 s => ?_) _ _
    obtain ⟨v6, h7⟩ := s
    show Aw K E _ _ _ _ _ 61 [(0, rf E a0), (3, .int v6)] [] h7 _
    refine aw_iload_n (pc := 61) C dX2_moveBy_61 rfl 1 rfl ?_
    refine aw_aload_n (pc := 62) C dX2_moveBy_62 rfl 0 rfl ?_
    refine aw_getR (pc := 63) C fl_X2_15 dX2_moveBy_63 (fun v10 ev10 => ?_)
    refine aw_arraylength (pc := 66) C dX2_moveBy_66 (fun v11 ev11 => ?_)
    refine aw_icmp_ge (pc := 67) C 89 dX2_moveBy_67 (by decide) (fun c17 => ?_) (fun c17 => ?_)
    · refine aw_iconst (pc := 89) (v := 1) C dX2_moveBy_89 (by decide) ?_
      exact aw_ireturn (pc := 90) C hr rfl hz0 rfl dX2_moveBy_90
    refine aw_aload_n (pc := 70) C dX2_moveBy_70 rfl 0 rfl ?_
    refine aw_getR (pc := 71) C fl_X2_15 dX2_moveBy_71 (fun v12 ev12 => ?_)
    refine aw_iload_n (pc := 74) C dX2_moveBy_74 rfl 1 rfl ?_
    refine aw_aload_n (pc := 75) C dX2_moveBy_75 rfl 0 rfl ?_
    refine aw_getR (pc := 76) C fl_X2_15 dX2_moveBy_76 (fun v13 ev13 => ?_)
    refine aw_iload_n (pc := 79) C dX2_moveBy_79 rfl 1 rfl ?_
    refine aw_iaload (pc := 80) C dX2_moveBy_80 (fun v14 ev14 => ?_)
    refine aw_ineg (pc := 81) C dX2_moveBy_81 ?_
    refine aw_iastore (pc := 82) C dX2_moveBy_82 (fun h15 eh15 => ?_)
    refine aw_iincN (pc := 83) (L1 := [(0, rf E a0)]) (k := 1) C dX2_moveBy_83 1 rfl (by decide) (by decide) rfl (fun v16 ev16 => ?_)
    refine aw_goto (pc := 86) C 61 dX2_moveBy_86 (by decide) ?_
    exact aw_sub (L' := [(0, rf E a0), (3, .int v16)]) [1, 0] rfl (ih9 (v16, h15))
  refine aw_icmp_ge (pc := 15) C 59 dX2_moveBy_15 (by decide) (fun c25 => ?_) (fun c25 => ?_)
  · exact aw_sub (L' := [(0, rf E a0)]) [1] rfl (jk5 ())
  refine aw_iload_n (pc := 18) C dX2_moveBy_18 rfl 0 rfl ?_
  refine aw_iconst (pc := 19) (v := 3) C dX2_moveBy_19 (by decide) ?_
  refine aw_iadd (pc := 20) C dX2_moveBy_20 ?_
  refine aw_getsM (pc := 21) C sl_X2_67 dX2_moveBy_21 ?_
  refine aw_tlenM (pc := 24) C dX2_moveBy_24 ?_
  refine aw_icmp_ge (pc := 25) C 59 dX2_moveBy_25 (by decide) (fun c24 => ?_) (fun c24 => ?_)
  · exact aw_sub (L' := [(0, rf E a0)]) [1] rfl (jk5 ())
  refine aw_aload_n (pc := 28) C dX2_moveBy_28 rfl 1 rfl ?_
  refine aw_getsM (pc := 29) C sl_X2_67 dX2_moveBy_29 ?_
  refine aw_iload_n (pc := 32) C dX2_moveBy_32 rfl 0 rfl ?_
  refine aw_tloadM (pc := 33) C dX2_moveBy_33 (fun v18 ev18 => ?_)
  refine aw_getsM (pc := 34) C sl_X2_67 dX2_moveBy_34 ?_
  refine aw_iload_n (pc := 37) C dX2_moveBy_37 rfl 0 rfl ?_
  refine aw_iconst (pc := 38) (v := 1) C dX2_moveBy_38 (by decide) ?_
  refine aw_iadd (pc := 39) C dX2_moveBy_39 ?_
  refine aw_tloadM (pc := 40) C dX2_moveBy_40 (fun v19 ev19 => ?_)
  refine aw_getsM (pc := 41) C sl_X2_67 dX2_moveBy_41 ?_
  refine aw_iload_n (pc := 44) C dX2_moveBy_44 rfl 0 rfl ?_
  refine aw_iconst (pc := 45) (v := 2) C dX2_moveBy_45 (by decide) ?_
  refine aw_iadd (pc := 46) C dX2_moveBy_46 ?_
  refine aw_tloadM (pc := 47) C dX2_moveBy_47 (fun v20 ev20 => ?_)
  refine aw_getsM (pc := 48) C sl_X2_67 dX2_moveBy_48 ?_
  refine aw_iload_n (pc := 51) C dX2_moveBy_51 rfl 0 rfl ?_
  refine aw_iconst (pc := 52) (v := 3) C dX2_moveBy_52 (by decide) ?_
  refine aw_iadd (pc := 53) C dX2_moveBy_53 ?_
  refine aw_tloadM (pc := 54) C dX2_moveBy_54 (fun v21 ev21 => ?_)
  refine aw_callVI (pc := 55) (R := rmX2_moveBy) (c := 2) (As := [.int v18, .int v19, .int v20, .int v21]) (rest := []) (st := [.int v21, .int v20, .int v19, .int v18, rf E a0]) (c' := 0) (s' := 0) C hE rfl (by decide) cal_X2_turnBy ml_X2_70 rfl ⟨(Nat.le_of_ble_eq_true rfl), (Nat.le_of_ble_eq_true rfl)⟩ ⟨(Nat.le_of_ble_eq_true rfl), (Nat.le_of_ble_eq_true rfl)⟩ dX2_moveBy_55 (okX2_turnBy E (kL K) a0 v18 v19 v20 v21 h1) rfl (Nat.le_of_ble_eq_true rfl) rfl rfl (fun v23 h22 eh22 => ?_)
  exact aw_zreturn (pc := 58) C hr hz0 rfl dX2_moveBy_58
def rmX9_move : Room := { frames := 4, cells := 0, slots := 0, locals := 98 }
set_option maxHeartbeats 4000000 in
set_option maxRecDepth 100000 in
theorem okX9_move (E : Ev) (l : Launch) (a0 : Nat) (a1 : Int32) (h0 : Mem) : AMet E l yX9_move cX9_move 2 (some (.int)) rmX9_move [rf E a0, .int a1] h0 rvI (fX9_move a0 a1 h0) := by
  refine am_intro (plainFor_of_name (by decide +kernel)) (Nat.le_of_ble_eq_true rfl) (fun K hKl C hr hnm hz0 => ?_)
  replace C : CxOK K E RX9 cX9_move 2 := C
  have hE : E.1 + 1 ≤ (kS K).heap.size := by omega
  unfold fX9_move
  show Aw K E _ _ _ _ _ 0 [(0, rf E a0), (1, .int a1)] [] h0 _
  refine aw_iload_n (pc := 0) C dX9_move_0 rfl 1 rfl ?_
  refine aw_callSI (pc := 1) (R := rmX9_move) (As := [.int a1]) (rest := []) (st := [.int a1]) (c' := 0) (s' := 0) C hE cal_X2_isMove ml_X9_106 rfl ⟨(Nat.le_of_ble_eq_true rfl), (Nat.le_of_ble_eq_true rfl)⟩ ⟨(Nat.le_of_ble_eq_true rfl), (Nat.le_of_ble_eq_true rfl)⟩ dX9_move_1 (okX2_isMove E (kL K) a1 h0) rfl (Nat.le_of_ble_eq_true rfl) rfl rfl (fun v2 h1 eh1 => ?_)
  refine aw_if_ne (pc := 4) C 9 dX9_move_4 (by decide) (fun c9 => ?_) (fun c9 => ?_)
  · refine aw_iconst (pc := 7) (v := (-1)) C dX9_move_7 (by decide) ?_
    exact aw_ireturn (pc := 8) C hr rfl hz0 rfl dX9_move_8
  refine aw_aload_n (pc := 9) C dX9_move_9 rfl 0 rfl ?_
  refine aw_getR (pc := 10) C fl_X9_12 dX9_move_10 (fun v3 ev3 => ?_)
  refine aw_getR (pc := 13) C fl_X9_71 dX9_move_13 (fun v4 ev4 => ?_)
  refine aw_getR (pc := 16) C fl_X9_74 dX9_move_16 (fun v5 ev5 => ?_)
  refine aw_iload_n (pc := 19) C dX9_move_19 rfl 1 rfl ?_
  refine aw_callVI (pc := 20) (R := rmX9_move) (c := 2) (As := [.int a1]) (rest := []) (st := [.int a1, rf E v5]) (c' := 0) (s' := 0) C hE rfl (by decide) cal_X2_moveBy ml_X9_109 rfl ⟨(Nat.le_of_ble_eq_true rfl), (Nat.le_of_ble_eq_true rfl)⟩ ⟨(Nat.le_of_ble_eq_true rfl), (Nat.le_of_ble_eq_true rfl)⟩ dX9_move_20 (okX2_moveBy E (kL K) v5 a1 h1) rfl (Nat.le_of_ble_eq_true rfl) rfl rfl (fun v7 h6 eh6 => ?_)
  refine aw_if_eq (pc := 23) C 30 dX9_move_23 (by decide) (fun c8 => ?_) (fun c8 => ?_)
  · refine aw_bipush (pc := 30) (v := (-3)) C dX9_move_30 (by decide) ?_
    exact aw_ireturn (pc := 32) C hr rfl hz0 rfl dX9_move_32
  refine aw_iconst (pc := 26) (v := 1) C dX9_move_26 (by decide) ?_
  refine aw_goto (pc := 27) C 32 dX9_move_27 (by decide) ?_
  exact aw_ireturn (pc := 32) C hr rfl hz0 rfl dX9_move_32
def rmX9_isTurn : Room := { frames := 1, cells := 0, slots := 0, locals := 22 }
set_option maxHeartbeats 4000000 in
set_option maxRecDepth 100000 in
theorem okX9_isTurn (E : Ev) (l : Launch) (a0 : Int32) (h0 : Mem) : AMet E l yX9_isTurn cX9_isTurn 1 (some (.boolean)) rmX9_isTurn [.int a0] h0 rvI (fX9_isTurn a0 h0) := by
  refine am_intro (plainFor_of_name (by decide +kernel)) (Nat.le_of_ble_eq_true rfl) (fun K hKl C hr hnm hz0 => ?_)
  replace C : CxOK K E RX9 cX9_isTurn 1 := C
  have hE : E.1 + 1 ≤ (kS K).heap.size := by omega
  unfold fX9_isTurn
  show Aw K E _ _ _ _ _ 0 [(0, .int a0)] [] h0 _
  refine aw_iload_n (pc := 0) C dX9_isTurn_0 rfl 0 rfl ?_
  refine aw_bipush (pc := 1) (v := (-9)) C dX9_isTurn_1 (by decide) ?_
  refine aw_bipush (pc := 3) (v := 9) C dX9_isTurn_3 (by decide) ?_
  refine aw_callSI (pc := 5) (R := rmX9_isTurn) (As := [.int a0, .int (-9), .int 9]) (rest := []) (st := [.int 9, .int (-9), .int a0]) (c' := 0) (s' := 0) C hE cal_X9_between ml_X9_67 rfl ⟨(Nat.le_of_ble_eq_true rfl), (Nat.le_of_ble_eq_true rfl)⟩ ⟨(Nat.le_of_ble_eq_true rfl), (Nat.le_of_ble_eq_true rfl)⟩ dX9_isTurn_5 (okX9_between E (kL K) a0 (-9) 9 h0) rfl (Nat.le_of_ble_eq_true rfl) rfl rfl (fun v2 h1 eh1 => ?_)
  exact aw_zreturn (pc := 8) C hr hz0 rfl dX9_isTurn_8
def rmX9_turn : Room := { frames := 3, cells := 0, slots := 0, locals := 75 }
set_option maxHeartbeats 4000000 in
set_option maxRecDepth 100000 in
theorem okX9_turn (E : Ev) (l : Launch) (a0 : Nat) (a1 : Int32) (a2 : Int32) (a3 : Int32) (a4 : Int32) (h0 : Mem) : AMet E l yX9_turn cX9_turn 5 (some (.int)) rmX9_turn [rf E a0, .int a1, .int a2, .int a3, .int a4] h0 rvI (fX9_turn a0 a1 a2 a3 a4 h0) := by
  refine am_intro (plainFor_of_name (by decide +kernel)) (Nat.le_of_ble_eq_true rfl) (fun K hKl C hr hnm hz0 => ?_)
  replace C : CxOK K E RX9 cX9_turn 5 := C
  have hE : E.1 + 1 ≤ (kS K).heap.size := by omega
  unfold fX9_turn
  show Aw K E _ _ _ _ _ 0 [(0, rf E a0), (1, .int a1), (2, .int a2), (3, .int a3), (4, .int a4)] [] h0 _
  refine aw_iload_n (pc := 0) C dX9_turn_0 rfl 1 rfl ?_
  refine aw_callSI (pc := 1) (R := rmX9_turn) (As := [.int a1]) (rest := []) (st := [.int a1]) (c' := 0) (s' := 0) C hE cal_X9_isTurn ml_X9_112 rfl ⟨(Nat.le_of_ble_eq_true rfl), (Nat.le_of_ble_eq_true rfl)⟩ ⟨(Nat.le_of_ble_eq_true rfl), (Nat.le_of_ble_eq_true rfl)⟩ dX9_turn_1 (okX9_isTurn E (kL K) a1 h0) rfl (Nat.le_of_ble_eq_true rfl) rfl rfl (fun v2 h1 eh1 => ?_)
  refine aw_if_eq (pc := 4) C 29 dX9_turn_4 (by decide) (fun c18 => ?_) (fun c18 => ?_)
  · refine aw_bipush (pc := 29) (v := (-2)) C dX9_turn_29 (by decide) ?_
    exact aw_ireturn (pc := 31) C hr rfl hz0 rfl dX9_turn_31
  refine aw_iload_n (pc := 7) C dX9_turn_7 rfl 2 rfl ?_
  refine aw_callSI (pc := 8) (R := rmX9_turn) (As := [.int a2]) (rest := []) (st := [.int a2]) (c' := 0) (s' := 0) C hE cal_X9_isTurn ml_X9_112 rfl ⟨(Nat.le_of_ble_eq_true rfl), (Nat.le_of_ble_eq_true rfl)⟩ ⟨(Nat.le_of_ble_eq_true rfl), (Nat.le_of_ble_eq_true rfl)⟩ dX9_turn_8 (okX9_isTurn E (kL K) a2 h1) rfl (Nat.le_of_ble_eq_true rfl) rfl rfl (fun v4 h3 eh3 => ?_)
  refine aw_if_eq (pc := 11) C 29 dX9_turn_11 (by decide) (fun c17 => ?_) (fun c17 => ?_)
  · refine aw_bipush (pc := 29) (v := (-2)) C dX9_turn_29 (by decide) ?_
    exact aw_ireturn (pc := 31) C hr rfl hz0 rfl dX9_turn_31
  refine aw_iload_n (pc := 14) C dX9_turn_14 rfl 3 rfl ?_
  refine aw_callSI (pc := 15) (R := rmX9_turn) (As := [.int a3]) (rest := []) (st := [.int a3]) (c' := 0) (s' := 0) C hE cal_X9_isTurn ml_X9_112 rfl ⟨(Nat.le_of_ble_eq_true rfl), (Nat.le_of_ble_eq_true rfl)⟩ ⟨(Nat.le_of_ble_eq_true rfl), (Nat.le_of_ble_eq_true rfl)⟩ dX9_turn_15 (okX9_isTurn E (kL K) a3 h3) rfl (Nat.le_of_ble_eq_true rfl) rfl rfl (fun v6 h5 eh5 => ?_)
  refine aw_if_eq (pc := 18) C 29 dX9_turn_18 (by decide) (fun c16 => ?_) (fun c16 => ?_)
  · refine aw_bipush (pc := 29) (v := (-2)) C dX9_turn_29 (by decide) ?_
    exact aw_ireturn (pc := 31) C hr rfl hz0 rfl dX9_turn_31
  refine aw_iload (pc := 21) C dX9_turn_21 4 rfl ?_
  refine aw_callSI (pc := 23) (R := rmX9_turn) (As := [.int a4]) (rest := []) (st := [.int a4]) (c' := 0) (s' := 0) C hE cal_X9_isTurn ml_X9_112 rfl ⟨(Nat.le_of_ble_eq_true rfl), (Nat.le_of_ble_eq_true rfl)⟩ ⟨(Nat.le_of_ble_eq_true rfl), (Nat.le_of_ble_eq_true rfl)⟩ dX9_turn_23 (okX9_isTurn E (kL K) a4 h5) rfl (Nat.le_of_ble_eq_true rfl) rfl rfl (fun v8 h7 eh7 => ?_)
  refine aw_if_ne (pc := 26) C 32 dX9_turn_26 (by decide) (fun c15 => ?_) (fun c15 => ?_)
  · refine aw_bipush (pc := 29) (v := (-2)) C dX9_turn_29 (by decide) ?_
    exact aw_ireturn (pc := 31) C hr rfl hz0 rfl dX9_turn_31
  refine aw_aload_n (pc := 32) C dX9_turn_32 rfl 0 rfl ?_
  refine aw_getR (pc := 33) C fl_X9_12 dX9_turn_33 (fun v9 ev9 => ?_)
  refine aw_getR (pc := 36) C fl_X9_71 dX9_turn_36 (fun v10 ev10 => ?_)
  refine aw_getR (pc := 39) C fl_X9_74 dX9_turn_39 (fun v11 ev11 => ?_)
  refine aw_iload_n (pc := 42) C dX9_turn_42 rfl 1 rfl ?_
  refine aw_iload_n (pc := 43) C dX9_turn_43 rfl 2 rfl ?_
  refine aw_iload_n (pc := 44) C dX9_turn_44 rfl 3 rfl ?_
  refine aw_iload (pc := 45) C dX9_turn_45 4 rfl ?_
  refine aw_callVI (pc := 47) (R := rmX9_turn) (c := 2) (As := [.int a1, .int a2, .int a3, .int a4]) (rest := []) (st := [.int a4, .int a3, .int a2, .int a1, rf E v11]) (c' := 0) (s' := 0) C hE rfl (by decide) cal_X2_turnBy ml_X9_115 rfl ⟨(Nat.le_of_ble_eq_true rfl), (Nat.le_of_ble_eq_true rfl)⟩ ⟨(Nat.le_of_ble_eq_true rfl), (Nat.le_of_ble_eq_true rfl)⟩ dX9_turn_47 (okX2_turnBy E (kL K) v11 a1 a2 a3 a4 h7) rfl (Nat.le_of_ble_eq_true rfl) rfl rfl (fun v13 h12 eh12 => ?_)
  refine aw_if_eq (pc := 50) C 57 dX9_turn_50 (by decide) (fun c14 => ?_) (fun c14 => ?_)
  · refine aw_bipush (pc := 57) (v := (-3)) C dX9_turn_57 (by decide) ?_
    exact aw_ireturn (pc := 59) C hr rfl hz0 rfl dX9_turn_59
  refine aw_iconst (pc := 53) (v := 1) C dX9_turn_53 (by decide) ?_
  refine aw_goto (pc := 54) C 59 dX9_turn_54 (by decide) ?_
  exact aw_ireturn (pc := 59) C hr rfl hz0 rfl dX9_turn_59
def rmX5_add : Room := { frames := 0, cells := 0, slots := 0, locals := 0 }
set_option maxHeartbeats 4000000 in
set_option maxRecDepth 100000 in
theorem okX5_add (E : Ev) (l : Launch) (a0 : Nat) (a1 : Int32) (h0 : Mem) : AMet E l yX5_add cX5_add 2 (some (.boolean)) rmX5_add [rf E a0, .int a1] h0 rvI (fX5_add a0 a1 h0) := by
  refine am_intro (plainFor_of_name (by decide +kernel)) (Nat.le_of_ble_eq_true rfl) (fun K hKl C hr hnm hz0 => ?_)
  replace C : CxOK K E RX5 cX5_add 2 := C
  have hE : E.1 + 1 ≤ (kS K).heap.size := by omega
  unfold fX5_add
  show Aw K E _ _ _ _ _ 0 [(0, rf E a0), (1, .int a1)] [] h0 _
  refine aw_aload_n (pc := 0) C dX5_add_0 rfl 0 rfl ?_
  refine aw_getI (pc := 1) C fl_X5_7 dX5_add_1 (fun v1 ev1 => ?_)
  refine aw_if_lt (pc := 4) C 19 dX5_add_4 (by decide) (fun c11 => ?_) (fun c11 => ?_)
  · refine aw_iconst (pc := 19) (v := 0) C dX5_add_19 (by decide) ?_
    exact aw_ireturn (pc := 20) C hr rfl hz0 rfl dX5_add_20
  refine aw_aload_n (pc := 7) C dX5_add_7 rfl 0 rfl ?_
  refine aw_getI (pc := 8) C fl_X5_7 dX5_add_8 (fun v2 ev2 => ?_)
  refine aw_aload_n (pc := 11) C dX5_add_11 rfl 0 rfl ?_
  refine aw_getR (pc := 12) C fl_X5_22 dX5_add_12 (fun v3 ev3 => ?_)
  refine aw_arraylength (pc := 15) C dX5_add_15 (fun v4 ev4 => ?_)
  refine aw_icmp_lt (pc := 16) C 21 dX5_add_16 (by decide) (fun c10 => ?_) (fun c10 => ?_)
  · refine aw_aload_n (pc := 21) C dX5_add_21 rfl 0 rfl ?_
    refine aw_getR (pc := 22) C fl_X5_22 dX5_add_22 (fun v5 ev5 => ?_)
    refine aw_aload_n (pc := 25) C dX5_add_25 rfl 0 rfl ?_
    refine aw_getI (pc := 26) C fl_X5_7 dX5_add_26 (fun v6 ev6 => ?_)
    refine aw_iload_n (pc := 29) C dX5_add_29 rfl 1 rfl ?_
    refine aw_iastore (pc := 30) C dX5_add_30 (fun h7 eh7 => ?_)
    refine aw_aload_n (pc := 31) C dX5_add_31 rfl 0 rfl ?_
    refine aw_dup (pc := 32) C rfl dX5_add_32 ?_
    refine aw_getI (pc := 33) C fl_X5_7 dX5_add_33 (fun v8 ev8 => ?_)
    refine aw_iconst (pc := 36) (v := 1) C dX5_add_36 (by decide) ?_
    refine aw_iadd (pc := 37) C dX5_add_37 ?_
    refine aw_putI (pc := 38) C fw_X5_7 rfl rfl dX5_add_38 (fun h9 eh9 => ?_)
    refine aw_iconst (pc := 41) (v := 1) C dX5_add_41 (by decide) ?_
    exact aw_ireturn (pc := 42) C hr rfl hz0 rfl dX5_add_42
  refine aw_iconst (pc := 19) (v := 0) C dX5_add_19 (by decide) ?_
  exact aw_ireturn (pc := 20) C hr rfl hz0 rfl dX5_add_20
def rmX9_feed : Room := { frames := 1, cells := 0, slots := 0, locals := 22 }
set_option maxHeartbeats 4000000 in
set_option maxRecDepth 100000 in
theorem okX9_feed (E : Ev) (l : Launch) (a0 : Nat) (a1 : Int32) (h0 : Mem) : AMet E l yX9_feed cX9_feed 2 (some (.int)) rmX9_feed [rf E a0, .int a1] h0 rvI (fX9_feed a0 a1 h0) := by
  refine am_intro (plainFor_of_name (by decide +kernel)) (Nat.le_of_ble_eq_true rfl) (fun K hKl C hr hnm hz0 => ?_)
  replace C : CxOK K E RX9 cX9_feed 2 := C
  have hE : E.1 + 1 ≤ (kS K).heap.size := by omega
  unfold fX9_feed
  show Aw K E _ _ _ _ _ 0 [(0, rf E a0), (1, .int a1)] [] h0 _
  refine aw_iload_n (pc := 0) C dX9_feed_0 rfl 1 rfl ?_
  refine aw_iconst (pc := 1) (v := 0) C dX9_feed_1 (by decide) ?_
  refine aw_bipush (pc := 2) (v := 127) C dX9_feed_2 (by decide) ?_
  refine aw_callSI (pc := 4) (R := rmX9_feed) (As := [.int a1, .int 0, .int 127]) (rest := []) (st := [.int 127, .int 0, .int a1]) (c' := 0) (s' := 0) C hE cal_X9_between ml_X9_67 rfl ⟨(Nat.le_of_ble_eq_true rfl), (Nat.le_of_ble_eq_true rfl)⟩ ⟨(Nat.le_of_ble_eq_true rfl), (Nat.le_of_ble_eq_true rfl)⟩ dX9_feed_4 (okX9_between E (kL K) a1 0 127 h0) rfl (Nat.le_of_ble_eq_true rfl) rfl rfl (fun v2 h1 eh1 => ?_)
  refine aw_if_ne (pc := 7) C 13 dX9_feed_7 (by decide) (fun c9 => ?_) (fun c9 => ?_)
  · refine aw_bipush (pc := 10) (v := (-2)) C dX9_feed_10 (by decide) ?_
    exact aw_ireturn (pc := 12) C hr rfl hz0 rfl dX9_feed_12
  refine aw_aload_n (pc := 13) C dX9_feed_13 rfl 0 rfl ?_
  refine aw_getR (pc := 14) C fl_X9_56 dX9_feed_14 (fun v3 ev3 => ?_)
  refine aw_iload_n (pc := 17) C dX9_feed_17 rfl 1 rfl ?_
  refine aw_callVI (pc := 18) (R := rmX9_feed) (c := 5) (As := [.int a1]) (rest := []) (st := [.int a1, rf E v3]) (c' := 0) (s' := 0) C hE rfl (by decide) cal_X5_add ml_X9_119 rfl ⟨(Nat.le_of_ble_eq_true rfl), (Nat.le_of_ble_eq_true rfl)⟩ ⟨(Nat.le_of_ble_eq_true rfl), (Nat.le_of_ble_eq_true rfl)⟩ dX9_feed_18 (okX5_add E (kL K) v3 a1 h1) rfl (Nat.le_of_ble_eq_true rfl) rfl rfl (fun v5 h4 eh4 => ?_)
  refine aw_if_eq (pc := 21) C 34 dX9_feed_21 (by decide) (fun c8 => ?_) (fun c8 => ?_)
  · refine aw_bipush (pc := 34) (v := (-4)) C dX9_feed_34 (by decide) ?_
    exact aw_ireturn (pc := 36) C hr rfl hz0 rfl dX9_feed_36
  refine aw_aload_n (pc := 24) C dX9_feed_24 rfl 0 rfl ?_
  refine aw_getR (pc := 25) C fl_X9_56 dX9_feed_25 (fun v6 ev6 => ?_)
  refine aw_getI (pc := 28) C fl_X9_122 dX9_feed_28 (fun v7 ev7 => ?_)
  refine aw_goto (pc := 31) C 36 dX9_feed_31 (by decide) ?_
  exact aw_ireturn (pc := 36) C hr rfl hz0 rfl dX9_feed_36
def rmX4_empty : Room := { frames := 0, cells := 0, slots := 0, locals := 0 }
set_option maxHeartbeats 4000000 in
set_option maxRecDepth 100000 in
theorem okX4_empty (E : Ev) (l : Launch) (a0 : Nat) (h0 : Mem) : AMet E l yX4_empty cX4_empty 1 (some (.int)) rmX4_empty [rf E a0] h0 rvI (fX4_empty a0 h0) := by
  refine am_intro (plainFor_of_name (by decide +kernel)) (Nat.le_of_ble_eq_true rfl) (fun K hKl C hr hnm hz0 => ?_)
  replace C : CxOK K E RX4 cX4_empty 1 := C
  have hE : E.1 + 1 ≤ (kS K).heap.size := by omega
  unfold fX4_empty
  show Aw K E _ _ _ _ _ 0 [(0, rf E a0)] [] h0 _
  refine aw_aload_n (pc := 0) C dX4_empty_0 rfl 0 rfl ?_
  refine aw_iconst (pc := 1) (v := 0) C dX4_empty_1 (by decide) ?_
  refine aw_putI (pc := 2) C fw_X4_9 rfl rfl dX4_empty_2 (fun h1 eh1 => ?_)
  refine aw_iconst (pc := 5) (v := 0) C dX4_empty_5 (by decide) ?_
  exact aw_ireturn (pc := 6) C hr rfl hz0 rfl dX4_empty_6
def rmX5_next : Room := { frames := 0, cells := 0, slots := 0, locals := 0 }
set_option maxHeartbeats 4000000 in
set_option maxRecDepth 100000 in
theorem okX5_next (E : Ev) (l : Launch) (a0 : Nat) (h0 : Mem) : AMet E l yX5_next cX5_next 1 (some (.int)) rmX5_next [rf E a0] h0 rvI (fX5_next a0 h0) := by
  refine am_intro (plainFor_of_name (by decide +kernel)) (Nat.le_of_ble_eq_true rfl) (fun K hKl C hr hnm hz0 => ?_)
  replace C : CxOK K E RX5 cX5_next 1 := C
  have hE : E.1 + 1 ≤ (kS K).heap.size := by omega
  unfold fX5_next
  show Aw K E _ _ _ _ _ 0 [(0, rf E a0)] [] h0 _
  refine aw_aload_n (pc := 0) C dX5_next_0 rfl 0 rfl ?_
  refine aw_getI (pc := 1) C fl_X5_26 dX5_next_1 (fun v1 ev1 => ?_)
  refine aw_if_lt (pc := 4) C 42 dX5_next_4 (by decide) (fun c12 => ?_) (fun c12 => ?_)
  · refine aw_iconst (pc := 42) (v := (-1)) C dX5_next_42 (by decide) ?_
    exact aw_ireturn (pc := 43) C hr rfl hz0 rfl dX5_next_43
  refine aw_aload_n (pc := 7) C dX5_next_7 rfl 0 rfl ?_
  refine aw_getI (pc := 8) C fl_X5_26 dX5_next_8 (fun v2 ev2 => ?_)
  refine aw_aload_n (pc := 11) C dX5_next_11 rfl 0 rfl ?_
  refine aw_getI (pc := 12) C fl_X5_7 dX5_next_12 (fun v3 ev3 => ?_)
  refine aw_icmp_ge (pc := 15) C 42 dX5_next_15 (by decide) (fun c11 => ?_) (fun c11 => ?_)
  · refine aw_iconst (pc := 42) (v := (-1)) C dX5_next_42 (by decide) ?_
    exact aw_ireturn (pc := 43) C hr rfl hz0 rfl dX5_next_43
  refine aw_aload_n (pc := 18) C dX5_next_18 rfl 0 rfl ?_
  refine aw_getI (pc := 19) C fl_X5_26 dX5_next_19 (fun v4 ev4 => ?_)
  refine aw_aload_n (pc := 22) C dX5_next_22 rfl 0 rfl ?_
  refine aw_getR (pc := 23) C fl_X5_22 dX5_next_23 (fun v5 ev5 => ?_)
  refine aw_arraylength (pc := 26) C dX5_next_26 (fun v6 ev6 => ?_)
  refine aw_icmp_ge (pc := 27) C 42 dX5_next_27 (by decide) (fun c10 => ?_) (fun c10 => ?_)
  · refine aw_iconst (pc := 42) (v := (-1)) C dX5_next_42 (by decide) ?_
    exact aw_ireturn (pc := 43) C hr rfl hz0 rfl dX5_next_43
  refine aw_aload_n (pc := 30) C dX5_next_30 rfl 0 rfl ?_
  refine aw_getR (pc := 31) C fl_X5_22 dX5_next_31 (fun v7 ev7 => ?_)
  refine aw_aload_n (pc := 34) C dX5_next_34 rfl 0 rfl ?_
  refine aw_getI (pc := 35) C fl_X5_26 dX5_next_35 (fun v8 ev8 => ?_)
  refine aw_iaload (pc := 38) C dX5_next_38 (fun v9 ev9 => ?_)
  refine aw_goto (pc := 39) C 43 dX5_next_39 (by decide) ?_
  exact aw_ireturn (pc := 43) C hr rfl hz0 rfl dX5_next_43
def rmX5_hasDigit : Room := { frames := 0, cells := 0, slots := 0, locals := 0 }
set_option maxHeartbeats 4000000 in
set_option maxRecDepth 100000 in
theorem okX5_hasDigit (E : Ev) (l : Launch) (a0 : Int32) (h0 : Mem) : AMet E l yX5_hasDigit cX5_hasDigit 1 (some (.boolean)) rmX5_hasDigit [.int a0] h0 rvI (fX5_hasDigit a0 h0) := by
  refine am_intro (plainFor_of_name (by decide +kernel)) (Nat.le_of_ble_eq_true rfl) (fun K hKl C hr hnm hz0 => ?_)
  replace C : CxOK K E RX5 cX5_hasDigit 1 := C
  have hE : E.1 + 1 ≤ (kS K).heap.size := by omega
  unfold fX5_hasDigit
  show Aw K E _ _ _ _ _ 0 [(0, .int a0)] [] h0 _
  refine aw_iload_n (pc := 0) C dX5_hasDigit_0 rfl 0 rfl ?_
  refine aw_bipush (pc := 1) (v := 100) C dX5_hasDigit_1 (by decide) ?_
  refine aw_icmp_eq (pc := 3) C 18 dX5_hasDigit_3 (by decide) (fun c3 => ?_) (fun c3 => ?_)
  · refine aw_iconst (pc := 18) (v := 1) C dX5_hasDigit_18 (by decide) ?_
    refine aw_goto (pc := 19) C 23 dX5_hasDigit_19 (by decide) ?_
    exact aw_ireturn (pc := 23) C hr rfl hz0 rfl dX5_hasDigit_23
  refine aw_iload_n (pc := 6) C dX5_hasDigit_6 rfl 0 rfl ?_
  refine aw_bipush (pc := 7) (v := 97) C dX5_hasDigit_7 (by decide) ?_
  refine aw_icmp_eq (pc := 9) C 18 dX5_hasDigit_9 (by decide) (fun c2 => ?_) (fun c2 => ?_)
  · refine aw_iconst (pc := 18) (v := 1) C dX5_hasDigit_18 (by decide) ?_
    refine aw_goto (pc := 19) C 23 dX5_hasDigit_19 (by decide) ?_
    exact aw_ireturn (pc := 23) C hr rfl hz0 rfl dX5_hasDigit_23
  refine aw_iload_n (pc := 12) C dX5_hasDigit_12 rfl 0 rfl ?_
  refine aw_bipush (pc := 13) (v := 116) C dX5_hasDigit_13 (by decide) ?_
  refine aw_icmp_ne (pc := 15) C 22 dX5_hasDigit_15 (by decide) (fun c1 => ?_) (fun c1 => ?_)
  · refine aw_iconst (pc := 18) (v := 1) C dX5_hasDigit_18 (by decide) ?_
    refine aw_goto (pc := 19) C 23 dX5_hasDigit_19 (by decide) ?_
    exact aw_ireturn (pc := 23) C hr rfl hz0 rfl dX5_hasDigit_23
  refine aw_iconst (pc := 22) (v := 0) C dX5_hasDigit_22 (by decide) ?_
  exact aw_ireturn (pc := 23) C hr rfl hz0 rfl dX5_hasDigit_23
def rmX5_hasNumber : Room := { frames := 0, cells := 0, slots := 0, locals := 0 }
set_option maxHeartbeats 4000000 in
set_option maxRecDepth 100000 in
theorem okX5_hasNumber (E : Ev) (l : Launch) (a0 : Int32) (h0 : Mem) : AMet E l yX5_hasNumber cX5_hasNumber 1 (some (.boolean)) rmX5_hasNumber [.int a0] h0 rvI (fX5_hasNumber a0 h0) := by
  refine am_intro (plainFor_of_name (by decide +kernel)) (Nat.le_of_ble_eq_true rfl) (fun K hKl C hr hnm hz0 => ?_)
  replace C : CxOK K E RX5 cX5_hasNumber 1 := C
  have hE : E.1 + 1 ≤ (kS K).heap.size := by omega
  unfold fX5_hasNumber
  show Aw K E _ _ _ _ _ 0 [(0, .int a0)] [] h0 _
  refine aw_iload_n (pc := 0) C dX5_hasNumber_0 rfl 0 rfl ?_
  refine aw_bipush (pc := 1) (v := 97) C dX5_hasNumber_1 (by decide) ?_
  refine aw_icmp_eq (pc := 3) C 18 dX5_hasNumber_3 (by decide) (fun c3 => ?_) (fun c3 => ?_)
  · refine aw_iconst (pc := 18) (v := 1) C dX5_hasNumber_18 (by decide) ?_
    refine aw_goto (pc := 19) C 23 dX5_hasNumber_19 (by decide) ?_
    exact aw_ireturn (pc := 23) C hr rfl hz0 rfl dX5_hasNumber_23
  refine aw_iload_n (pc := 6) C dX5_hasNumber_6 rfl 0 rfl ?_
  refine aw_bipush (pc := 7) (v := 61) C dX5_hasNumber_7 (by decide) ?_
  refine aw_icmp_eq (pc := 9) C 18 dX5_hasNumber_9 (by decide) (fun c2 => ?_) (fun c2 => ?_)
  · refine aw_iconst (pc := 18) (v := 1) C dX5_hasNumber_18 (by decide) ?_
    refine aw_goto (pc := 19) C 23 dX5_hasNumber_19 (by decide) ?_
    exact aw_ireturn (pc := 23) C hr rfl hz0 rfl dX5_hasNumber_23
  refine aw_iload_n (pc := 12) C dX5_hasNumber_12 rfl 0 rfl ?_
  refine aw_bipush (pc := 13) (v := 119) C dX5_hasNumber_13 (by decide) ?_
  refine aw_icmp_ne (pc := 15) C 22 dX5_hasNumber_15 (by decide) (fun c1 => ?_) (fun c1 => ?_)
  · refine aw_iconst (pc := 18) (v := 1) C dX5_hasNumber_18 (by decide) ?_
    refine aw_goto (pc := 19) C 23 dX5_hasNumber_19 (by decide) ?_
    exact aw_ireturn (pc := 23) C hr rfl hz0 rfl dX5_hasNumber_23
  refine aw_iconst (pc := 22) (v := 0) C dX5_hasNumber_22 (by decide) ?_
  exact aw_ireturn (pc := 23) C hr rfl hz0 rfl dX5_hasNumber_23
def rmX5_isKind : Room := { frames := 1, cells := 0, slots := 0, locals := 20 }
set_option maxHeartbeats 4000000 in
set_option maxRecDepth 100000 in
theorem okX5_isKind (E : Ev) (l : Launch) (a0 : Int32) (h0 : Mem) : AMet E l yX5_isKind cX5_isKind 1 (some (.boolean)) rmX5_isKind [.int a0] h0 rvI (fX5_isKind a0 h0) := by
  refine am_intro (plainFor_of_name (by decide +kernel)) (Nat.le_of_ble_eq_true rfl) (fun K hKl C hr hnm hz0 => ?_)
  replace C : CxOK K E RX5 cX5_isKind 1 := C
  have hE : E.1 + 1 ≤ (kS K).heap.size := by omega
  unfold fX5_isKind
  show Aw K E _ _ _ _ _ 0 [(0, .int a0)] [] h0 _
  refine aw_iload_n (pc := 0) C dX5_isKind_0 rfl 0 rfl ?_
  refine aw_callSI (pc := 1) (R := rmX5_isKind) (As := [.int a0]) (rest := []) (st := [.int a0]) (c' := 0) (s' := 0) C hE cal_X5_hasDigit ml_X5_50 rfl ⟨(Nat.le_of_ble_eq_true rfl), (Nat.le_of_ble_eq_true rfl)⟩ ⟨(Nat.le_of_ble_eq_true rfl), (Nat.le_of_ble_eq_true rfl)⟩ dX5_isKind_1 (okX5_hasDigit E (kL K) a0 h0) rfl (Nat.le_of_ble_eq_true rfl) rfl rfl (fun v2 h1 eh1 => ?_)
  refine aw_if_ne (pc := 4) C 14 dX5_isKind_4 (by decide) (fun c6 => ?_) (fun c6 => ?_)
  · refine aw_iload_n (pc := 7) C dX5_isKind_7 rfl 0 rfl ?_
    refine aw_callSI (pc := 8) (R := rmX5_isKind) (As := [.int a0]) (rest := []) (st := [.int a0]) (c' := 0) (s' := 0) C hE cal_X5_hasNumber ml_X5_56 rfl ⟨(Nat.le_of_ble_eq_true rfl), (Nat.le_of_ble_eq_true rfl)⟩ ⟨(Nat.le_of_ble_eq_true rfl), (Nat.le_of_ble_eq_true rfl)⟩ dX5_isKind_8 (okX5_hasNumber E (kL K) a0 h1) rfl (Nat.le_of_ble_eq_true rfl) rfl rfl (fun v4 h3 eh3 => ?_)
    refine aw_if_eq (pc := 11) C 18 dX5_isKind_11 (by decide) (fun c5 => ?_) (fun c5 => ?_)
    · refine aw_iconst (pc := 18) (v := 0) C dX5_isKind_18 (by decide) ?_
      exact aw_ireturn (pc := 19) C hr rfl hz0 rfl dX5_isKind_19
    refine aw_iconst (pc := 14) (v := 1) C dX5_isKind_14 (by decide) ?_
    refine aw_goto (pc := 15) C 19 dX5_isKind_15 (by decide) ?_
    exact aw_ireturn (pc := 19) C hr rfl hz0 rfl dX5_isKind_19
  refine aw_iconst (pc := 14) (v := 1) C dX5_isKind_14 (by decide) ?_
  refine aw_goto (pc := 15) C 19 dX5_isKind_15 (by decide) ?_
  exact aw_ireturn (pc := 19) C hr rfl hz0 rfl dX5_isKind_19
def rmX5_isAtDigit : Room := { frames := 1, cells := 0, slots := 0, locals := 20 }
set_option maxHeartbeats 4000000 in
set_option maxRecDepth 100000 in
theorem okX5_isAtDigit (E : Ev) (l : Launch) (a0 : Nat) (h0 : Mem) : AMet E l yX5_isAtDigit cX5_isAtDigit 1 (some (.boolean)) rmX5_isAtDigit [rf E a0] h0 rvI (fX5_isAtDigit a0 h0) := by
  refine am_intro (plainFor_of_name (by decide +kernel)) (Nat.le_of_ble_eq_true rfl) (fun K hKl C hr hnm hz0 => ?_)
  replace C : CxOK K E RX5 cX5_isAtDigit 1 := C
  have hE : E.1 + 1 ≤ (kS K).heap.size := by omega
  unfold fX5_isAtDigit
  show Aw K E _ _ _ _ _ 0 [(0, rf E a0)] [] h0 _
  refine aw_aload_n (pc := 0) C dX5_isAtDigit_0 rfl 0 rfl ?_
  refine aw_callVI (pc := 1) (R := rmX5_isAtDigit) (c := 5) (As := []) (rest := []) (st := [rf E a0]) (c' := 0) (s' := 0) C hE rfl (by decide) cal_X5_next ml_X5_43 rfl ⟨(Nat.le_of_ble_eq_true rfl), (Nat.le_of_ble_eq_true rfl)⟩ ⟨(Nat.le_of_ble_eq_true rfl), (Nat.le_of_ble_eq_true rfl)⟩ dX5_isAtDigit_1 (okX5_next E (kL K) a0 h0) rfl (Nat.le_of_ble_eq_true rfl) rfl rfl (fun v2 h1 eh1 => ?_)
  refine aw_bipush (pc := 4) (v := 48) C dX5_isAtDigit_4 (by decide) ?_
  refine aw_icmp_lt (pc := 6) C 22 dX5_isAtDigit_6 (by decide) (fun c6 => ?_) (fun c6 => ?_)
  · refine aw_iconst (pc := 22) (v := 0) C dX5_isAtDigit_22 (by decide) ?_
    exact aw_ireturn (pc := 23) C hr rfl hz0 rfl dX5_isAtDigit_23
  refine aw_aload_n (pc := 9) C dX5_isAtDigit_9 rfl 0 rfl ?_
  refine aw_callVI (pc := 10) (R := rmX5_isAtDigit) (c := 5) (As := []) (rest := []) (st := [rf E a0]) (c' := 0) (s' := 0) C hE rfl (by decide) cal_X5_next ml_X5_43 rfl ⟨(Nat.le_of_ble_eq_true rfl), (Nat.le_of_ble_eq_true rfl)⟩ ⟨(Nat.le_of_ble_eq_true rfl), (Nat.le_of_ble_eq_true rfl)⟩ dX5_isAtDigit_10 (okX5_next E (kL K) a0 h1) rfl (Nat.le_of_ble_eq_true rfl) rfl rfl (fun v4 h3 eh3 => ?_)
  refine aw_bipush (pc := 13) (v := 57) C dX5_isAtDigit_13 (by decide) ?_
  refine aw_icmp_gt (pc := 15) C 22 dX5_isAtDigit_15 (by decide) (fun c5 => ?_) (fun c5 => ?_)
  · refine aw_iconst (pc := 22) (v := 0) C dX5_isAtDigit_22 (by decide) ?_
    exact aw_ireturn (pc := 23) C hr rfl hz0 rfl dX5_isAtDigit_23
  refine aw_iconst (pc := 18) (v := 1) C dX5_isAtDigit_18 (by decide) ?_
  refine aw_goto (pc := 19) C 23 dX5_isAtDigit_19 (by decide) ?_
  exact aw_ireturn (pc := 23) C hr rfl hz0 rfl dX5_isAtDigit_23
def rmX5_takeDigit : Room := { frames := 2, cells := 0, slots := 0, locals := 40 }
set_option maxHeartbeats 4000000 in
set_option maxRecDepth 100000 in
theorem okX5_takeDigit (E : Ev) (l : Launch) (a0 : Nat) (h0 : Mem) : AMet E l yX5_takeDigit cX5_takeDigit 1 (some (.boolean)) rmX5_takeDigit [rf E a0] h0 rvI (fX5_takeDigit a0 h0) := by
  refine am_intro (plainFor_of_name (by decide +kernel)) (Nat.le_of_ble_eq_true rfl) (fun K hKl C hr hnm hz0 => ?_)
  replace C : CxOK K E RX5 cX5_takeDigit 1 := C
  have hE : E.1 + 1 ≤ (kS K).heap.size := by omega
  unfold fX5_takeDigit
  show Aw K E _ _ _ _ _ 0 [(0, rf E a0)] [] h0 _
  refine aw_aload_n (pc := 0) C dX5_takeDigit_0 rfl 0 rfl ?_
  refine aw_callVI (pc := 1) (R := rmX5_takeDigit) (c := 5) (As := []) (rest := []) (st := [rf E a0]) (c' := 0) (s' := 0) C hE rfl (by decide) cal_X5_isAtDigit ml_X5_66 rfl ⟨(Nat.le_of_ble_eq_true rfl), (Nat.le_of_ble_eq_true rfl)⟩ ⟨(Nat.le_of_ble_eq_true rfl), (Nat.le_of_ble_eq_true rfl)⟩ dX5_takeDigit_1 (okX5_isAtDigit E (kL K) a0 h0) rfl (Nat.le_of_ble_eq_true rfl) rfl rfl (fun v2 h1 eh1 => ?_)
  refine aw_if_ne (pc := 4) C 9 dX5_takeDigit_4 (by decide) (fun c8 => ?_) (fun c8 => ?_)
  · refine aw_iconst (pc := 7) (v := 0) C dX5_takeDigit_7 (by decide) ?_
    exact aw_ireturn (pc := 8) C hr rfl hz0 rfl dX5_takeDigit_8
  refine aw_aload_n (pc := 9) C dX5_takeDigit_9 rfl 0 rfl ?_
  refine aw_aload_n (pc := 10) C dX5_takeDigit_10 rfl 0 rfl ?_
  refine aw_callVI (pc := 11) (R := rmX5_takeDigit) (c := 5) (As := []) (rest := [rf E a0]) (st := [rf E a0, rf E a0]) (c' := 0) (s' := 0) C hE rfl (by decide) cal_X5_next ml_X5_43 rfl ⟨(Nat.le_of_ble_eq_true rfl), (Nat.le_of_ble_eq_true rfl)⟩ ⟨(Nat.le_of_ble_eq_true rfl), (Nat.le_of_ble_eq_true rfl)⟩ dX5_takeDigit_11 (okX5_next E (kL K) a0 h1) rfl (Nat.le_of_ble_eq_true rfl) rfl rfl (fun v4 h3 eh3 => ?_)
  refine aw_bipush (pc := 14) (v := 48) C dX5_takeDigit_14 (by decide) ?_
  refine aw_isub (pc := 16) C dX5_takeDigit_16 ?_
  refine aw_putI (pc := 17) C fw_X5_29 rfl rfl dX5_takeDigit_17 (fun h5 eh5 => ?_)
  refine aw_aload_n (pc := 20) C dX5_takeDigit_20 rfl 0 rfl ?_
  refine aw_dup (pc := 21) C rfl dX5_takeDigit_21 ?_
  refine aw_getI (pc := 22) C fl_X5_26 dX5_takeDigit_22 (fun v6 ev6 => ?_)
  refine aw_iconst (pc := 25) (v := 1) C dX5_takeDigit_25 (by decide) ?_
  refine aw_iadd (pc := 26) C dX5_takeDigit_26 ?_
  refine aw_putI (pc := 27) C fw_X5_26 rfl rfl dX5_takeDigit_27 (fun h7 eh7 => ?_)
  refine aw_iconst (pc := 30) (v := 1) C dX5_takeDigit_30 (by decide) ?_
  exact aw_ireturn (pc := 31) C hr rfl hz0 rfl dX5_takeDigit_31
def rmX5_takeNumber : Room := { frames := 2, cells := 0, slots := 0, locals := 40 }
set_option maxHeartbeats 4000000 in
set_option maxRecDepth 100000 in
theorem okX5_takeNumber (E : Ev) (l : Launch) (a0 : Nat) (h0 : Mem) : AMet E l yX5_takeNumber cX5_takeNumber 3 (some (.boolean)) rmX5_takeNumber [rf E a0] h0 rvI (fX5_takeNumber a0 h0) := by
  refine am_intro (plainFor_of_name (by decide +kernel)) (Nat.le_of_ble_eq_true rfl) (fun K hKl C hr hnm hz0 => ?_)
  replace C : CxOK K E RX5 cX5_takeNumber 3 := C
  have hE : E.1 + 1 ≤ (kS K).heap.size := by omega
  unfold fX5_takeNumber
  show Aw K E _ _ _ _ _ 0 [(0, rf E a0)] [] h0 _
  refine aw_aload_n (pc := 0) C dX5_takeNumber_0 rfl 0 rfl ?_
  refine aw_callVI (pc := 1) (R := rmX5_takeNumber) (c := 5) (As := []) (rest := []) (st := [rf E a0]) (c' := 0) (s' := 0) C hE rfl (by decide) cal_X5_next ml_X5_43 rfl ⟨(Nat.le_of_ble_eq_true rfl), (Nat.le_of_ble_eq_true rfl)⟩ ⟨(Nat.le_of_ble_eq_true rfl), (Nat.le_of_ble_eq_true rfl)⟩ dX5_takeNumber_1 (okX5_next E (kL K) a0 h0) rfl (Nat.le_of_ble_eq_true rfl) rfl rfl (fun v2 h1 eh1 => ?_)
  refine aw_bipush (pc := 4) (v := 45) C dX5_takeNumber_4 (by decide) ?_
  refine aw_jn (σ := Int32) 14 (fun s => [(0, rf E a0)]) (fun s => [.int s]) (fun s => h1) (fun s => ?_) (fun k4 jk5 => ?_)
  · generalize s = v3
    show Aw K E _ _ _ _ _ 14 [(0, rf E a0)] [.int v3] h1 _
    refine aw_istore_n (pc := 14) (L' := [(1, .int v3), (0, rf E a0)]) C dX5_takeNumber_14 rfl (by decide) rfl ?_
    refine aw_iload_n (pc := 15) C dX5_takeNumber_15 rfl 0 rfl ?_
    refine aw_jn (σ := Mem) 29 (fun s => [(0, rf E a0), (1, .int v3)]) (fun s => []) (fun s => s) (fun s => ?_) (fun k7 jk8 => ?_)
    · generalize s = h6
      show Aw K E _ _ _ _ _ 29 [(0, rf E a0), (1, .int v3)] [] h6 _
      refine aw_aload_n (pc := 29) C dX5_takeNumber_29 rfl 0 rfl ?_
      refine aw_callVI (pc := 30) (R := rmX5_takeNumber) (c := 5) (As := []) (rest := []) (st := [rf E a0]) (c' := 0) (s' := 0) C hE rfl (by decide) cal_X5_isAtDigit ml_X5_66 rfl ⟨(Nat.le_of_ble_eq_true rfl), (Nat.le_of_ble_eq_true rfl)⟩ ⟨(Nat.le_of_ble_eq_true rfl), (Nat.le_of_ble_eq_true rfl)⟩ dX5_takeNumber_30 (okX5_isAtDigit E (kL K) a0 h6) rfl (Nat.le_of_ble_eq_true rfl) rfl rfl (fun v10 h9 eh9 => ?_)
      refine aw_if_ne (pc := 33) C 38 dX5_takeNumber_33 (by decide) (fun c32 => ?_) (fun c32 => ?_)
      · refine aw_iconst (pc := 36) (v := 0) C dX5_takeNumber_36 (by decide) ?_
        exact aw_ireturn (pc := 37) C hr rfl hz0 rfl dX5_takeNumber_37
      refine aw_iconst (pc := 38) (v := 0) C dX5_takeNumber_38 (by decide) ?_
      refine aw_istore_n (pc := 39) (L' := [(2, .int 0), (0, rf E a0), (1, .int v3)]) C dX5_takeNumber_39 rfl (by decide) rfl ?_
      refine aw_sub (L' := [(0, rf E a0), (1, .int v3), (2, .int 0)]) [1, 2, 0] rfl ?_
      refine aw_loop (pc := 40) (σ := Int32 × Mem) (fun s => [(0, rf E a0), (1, .int v3), (2, .int s.1)]) (fun s => s.2) _ (fun k13 ih14 s => ?_) _ _
      obtain ⟨v11, h12⟩ := s
      show Aw K E _ _ _ _ _ 40 [(0, rf E a0), (1, .int v3), (2, .int v11)] [] h12 _
      refine aw_iload_n (pc := 40) C dX5_takeNumber_40 rfl 2 rfl ?_
      refine aw_iconst (pc := 41) (v := 4) C dX5_takeNumber_41 (by decide) ?_
      refine aw_icmp_ge (pc := 42) C 87 dX5_takeNumber_42 (by decide) (fun c31 => ?_) (fun c31 => ?_)
      · refine aw_iload_n (pc := 87) C dX5_takeNumber_87 rfl 1 rfl ?_
        refine aw_if_eq (pc := 88) C 100 dX5_takeNumber_88 (by decide) (fun c30 => ?_) (fun c30 => ?_)
        · refine aw_iconst (pc := 100) (v := 1) C dX5_takeNumber_100 (by decide) ?_
          exact aw_ireturn (pc := 101) C hr rfl hz0 rfl dX5_takeNumber_101
        refine aw_aload_n (pc := 91) C dX5_takeNumber_91 rfl 0 rfl ?_
        refine aw_aload_n (pc := 92) C dX5_takeNumber_92 rfl 0 rfl ?_
        refine aw_getI (pc := 93) C fl_X5_32 dX5_takeNumber_93 (fun v28 ev28 => ?_)
        refine aw_ineg (pc := 96) C dX5_takeNumber_96 ?_
        refine aw_putI (pc := 97) C fw_X5_32 rfl rfl dX5_takeNumber_97 (fun h29 eh29 => ?_)
        refine aw_iconst (pc := 100) (v := 1) C dX5_takeNumber_100 (by decide) ?_
        exact aw_ireturn (pc := 101) C hr rfl hz0 rfl dX5_takeNumber_101
      refine aw_aload_n (pc := 45) C dX5_takeNumber_45 rfl 0 rfl ?_
      refine aw_callVI (pc := 46) (R := rmX5_takeNumber) (c := 5) (As := []) (rest := []) (st := [rf E a0]) (c' := 0) (s' := 0) C hE rfl (by decide) cal_X5_isAtDigit ml_X5_66 rfl ⟨(Nat.le_of_ble_eq_true rfl), (Nat.le_of_ble_eq_true rfl)⟩ ⟨(Nat.le_of_ble_eq_true rfl), (Nat.le_of_ble_eq_true rfl)⟩ dX5_takeNumber_46 (okX5_isAtDigit E (kL K) a0 h12) rfl (Nat.le_of_ble_eq_true rfl) rfl rfl (fun v16 h15 eh15 => ?_)
      refine aw_if_eq (pc := 49) C 87 dX5_takeNumber_49 (by decide) (fun c27 => ?_) (fun c27 => ?_)
      · refine aw_iload_n (pc := 87) C dX5_takeNumber_87 rfl 1 rfl ?_
        refine aw_if_eq (pc := 88) C 100 dX5_takeNumber_88 (by decide) (fun c26 => ?_) (fun c26 => ?_)
        · refine aw_iconst (pc := 100) (v := 1) C dX5_takeNumber_100 (by decide) ?_
          exact aw_ireturn (pc := 101) C hr rfl hz0 rfl dX5_takeNumber_101
        refine aw_aload_n (pc := 91) C dX5_takeNumber_91 rfl 0 rfl ?_
        refine aw_aload_n (pc := 92) C dX5_takeNumber_92 rfl 0 rfl ?_
        refine aw_getI (pc := 93) C fl_X5_32 dX5_takeNumber_93 (fun v24 ev24 => ?_)
        refine aw_ineg (pc := 96) C dX5_takeNumber_96 ?_
        refine aw_putI (pc := 97) C fw_X5_32 rfl rfl dX5_takeNumber_97 (fun h25 eh25 => ?_)
        refine aw_iconst (pc := 100) (v := 1) C dX5_takeNumber_100 (by decide) ?_
        exact aw_ireturn (pc := 101) C hr rfl hz0 rfl dX5_takeNumber_101
      refine aw_aload_n (pc := 52) C dX5_takeNumber_52 rfl 0 rfl ?_
      refine aw_aload_n (pc := 53) C dX5_takeNumber_53 rfl 0 rfl ?_
      refine aw_getI (pc := 54) C fl_X5_32 dX5_takeNumber_54 (fun v17 ev17 => ?_)
      refine aw_bipush (pc := 57) (v := 10) C dX5_takeNumber_57 (by decide) ?_
      refine aw_imul (pc := 59) C dX5_takeNumber_59 ?_
      refine aw_aload_n (pc := 60) C dX5_takeNumber_60 rfl 0 rfl ?_
      refine aw_callVI (pc := 61) (R := rmX5_takeNumber) (c := 5) (As := []) (rest := [.int (v17 * 10), rf E a0]) (st := [rf E a0, .int (v17 * 10), rf E a0]) (c' := 0) (s' := 0) C hE rfl (by decide) cal_X5_next ml_X5_43 rfl ⟨(Nat.le_of_ble_eq_true rfl), (Nat.le_of_ble_eq_true rfl)⟩ ⟨(Nat.le_of_ble_eq_true rfl), (Nat.le_of_ble_eq_true rfl)⟩ dX5_takeNumber_61 (okX5_next E (kL K) a0 h15) rfl (Nat.le_of_ble_eq_true rfl) rfl rfl (fun v19 h18 eh18 => ?_)
      refine aw_iadd (pc := 64) C dX5_takeNumber_64 ?_
      refine aw_bipush (pc := 65) (v := 48) C dX5_takeNumber_65 (by decide) ?_
      refine aw_isub (pc := 67) C dX5_takeNumber_67 ?_
      refine aw_putI (pc := 68) C fw_X5_32 rfl rfl dX5_takeNumber_68 (fun h20 eh20 => ?_)
      refine aw_aload_n (pc := 71) C dX5_takeNumber_71 rfl 0 rfl ?_
      refine aw_dup (pc := 72) C rfl dX5_takeNumber_72 ?_
      refine aw_getI (pc := 73) C fl_X5_26 dX5_takeNumber_73 (fun v21 ev21 => ?_)
      refine aw_iconst (pc := 76) (v := 1) C dX5_takeNumber_76 (by decide) ?_
      refine aw_iadd (pc := 77) C dX5_takeNumber_77 ?_
      refine aw_putI (pc := 78) C fw_X5_26 rfl rfl dX5_takeNumber_78 (fun h22 eh22 => ?_)
      refine aw_iincN (pc := 81) (L1 := [(0, rf E a0), (1, .int v3)]) (k := 1) C dX5_takeNumber_81 2 rfl (by decide) (by decide) rfl (fun v23 ev23 => ?_)
      refine aw_goto (pc := 84) C 40 dX5_takeNumber_84 (by decide) ?_
      exact aw_sub (L' := [(0, rf E a0), (1, .int v3), (2, .int v23)]) [1, 2, 0] rfl (ih14 (v23, h22))
    refine aw_if_eq (pc := 16) C 29 dX5_takeNumber_16 (by decide) (fun c35 => ?_) (fun c35 => ?_)
    · exact aw_sub (L' := [(0, rf E a0), (1, .int v3)]) [1, 0] rfl (jk8 h1)
    refine aw_aload_n (pc := 19) C dX5_takeNumber_19 rfl 1 rfl ?_
    refine aw_dup (pc := 20) C rfl dX5_takeNumber_20 ?_
    refine aw_getI (pc := 21) C fl_X5_26 dX5_takeNumber_21 (fun v33 ev33 => ?_)
    refine aw_iconst (pc := 24) (v := 1) C dX5_takeNumber_24 (by decide) ?_
    refine aw_iadd (pc := 25) C dX5_takeNumber_25 ?_
    refine aw_putI (pc := 26) C fw_X5_26 rfl rfl dX5_takeNumber_26 (fun h34 eh34 => ?_)
    exact aw_sub (L' := [(0, rf E a0), (1, .int v3)]) [1, 0] rfl (jk8 h34)
  refine aw_icmp_ne (pc := 6) C 13 dX5_takeNumber_6 (by decide) (fun c36 => ?_) (fun c36 => ?_)
  · refine aw_iconst (pc := 9) (v := 1) C dX5_takeNumber_9 (by decide) ?_
    refine aw_goto (pc := 10) C 14 dX5_takeNumber_10 (by decide) ?_
    exact aw_sub (L' := [(0, rf E a0)]) [0] rfl (jk5 1)
  refine aw_iconst (pc := 13) (v := 0) C dX5_takeNumber_13 (by decide) ?_
  exact aw_sub (L' := [(0, rf E a0)]) [0] rfl (jk5 0)
