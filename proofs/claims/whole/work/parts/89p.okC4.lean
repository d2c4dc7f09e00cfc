def rmX9_answersInFamilies : Room := { frames := 5, cells := 0, slots := 0, locals := 145 }
set_option maxHeartbeats 4000000 in
set_option maxRecDepth 100000 in
theorem okX9_answersInFamilies (E : Ev) (l : Launch) (a0 : Nat) (h0 : Mem) : AMet E l yX9_answersInFamilies cX9_answersInFamilies 1 (some (.object "TwoLetterForms$Answers")) rmX9_answersInFamilies [rf E a0] h0 (rvR E) (fX9_answersInFamilies a0 h0) := by
  refine am_intro (plainFor_of_name (by decide +kernel)) (Nat.le_of_ble_eq_true rfl) (fun K hKl C hr hnm hz0 => ?_)
  replace C : CxOK K E RX9 cX9_answersInFamilies 1 := C
  have hE : E.1 + 1 ≤ (kS K).heap.size := by omega
  unfold fX9_answersInFamilies
  show Aw K E _ _ _ _ _ 0 [(0, rf E a0)] [] h0 _
  refine aw_aload_n (pc := 0) C dX9_answersInFamilies_0 rfl 0 rfl ?_
  refine aw_getR (pc := 1) C fl_X9_35 dX9_answersInFamilies_1 (fun v1 ev1 => ?_)
  refine aw_aload_n (pc := 4) C dX9_answersInFamilies_4 rfl 0 rfl ?_
  refine aw_getR (pc := 5) C fl_X9_12 dX9_answersInFamilies_5 (fun v2 ev2 => ?_)
  refine aw_getR (pc := 8) C fl_X9_71 dX9_answersInFamilies_8 (fun v3 ev3 => ?_)
  refine aw_callVV (pc := 11) (R := rmX9_answersInFamilies) (c := 0) (As := [rf E v3]) (rest := []) (st := [rf E v3, rf E v1]) (c' := 0) (s' := 0) C hE rfl (by decide) cal_X0_look ml_X9_311 rfl ⟨(Nat.le_of_ble_eq_true rfl), (Nat.le_of_ble_eq_true rfl)⟩ ⟨(Nat.le_of_ble_eq_true rfl), (Nat.le_of_ble_eq_true rfl)⟩ dX9_answersInFamilies_11 (okX0_look E (kL K) v1 v3 h0) rfl (Nat.le_of_ble_eq_true rfl) rfl rfl (fun _u h4 eh4 => ?_)
  refine aw_aload_n (pc := 14) C dX9_answersInFamilies_14 rfl 0 rfl ?_
  refine aw_getR (pc := 15) C fl_X9_35 dX9_answersInFamilies_15 (fun v5 ev5 => ?_)
  refine aw_aload_n (pc := 18) C dX9_answersInFamilies_18 rfl 0 rfl ?_
  refine aw_getR (pc := 19) C fl_X9_42 dX9_answersInFamilies_19 (fun v6 ev6 => ?_)
  refine aw_callVV (pc := 22) (R := rmX9_answersInFamilies) (c := 0) (As := [rf E v6]) (rest := []) (st := [rf E v6, rf E v5]) (c' := 0) (s' := 0) C hE rfl (by decide) cal_X0_findFamilies ml_X9_314 rfl ⟨(Nat.le_of_ble_eq_true rfl), (Nat.le_of_ble_eq_true rfl)⟩ ⟨(Nat.le_of_ble_eq_true rfl), (Nat.le_of_ble_eq_true rfl)⟩ dX9_answersInFamilies_22 (okX0_findFamilies E (kL K) v5 v6 h4) rfl (Nat.le_of_ble_eq_true rfl) rfl rfl (fun _u h7 eh7 => ?_)
  refine aw_aload_n (pc := 25) C dX9_answersInFamilies_25 rfl 0 rfl ?_
  refine aw_getR (pc := 26) C fl_X9_35 dX9_answersInFamilies_26 (fun v8 ev8 => ?_)
  exact aw_areturn (pc := 29) C hr (gR_ne ev8) hz0 rfl dX9_answersInFamilies_29
def rmX3_at : Room := { frames := 0, cells := 0, slots := 0, locals := 0 }
set_option maxHeartbeats 4000000 in
set_option maxRecDepth 100000 in
theorem okX3_at (E : Ev) (l : Launch) (a0 : Nat) (a1 : Int32) (h0 : Mem) : AMet E l yX3_at cX3_at 5 (some (.long)) rmX3_at [rf E a0, .int a1] h0 rvJ (fX3_at a0 a1 h0) := by
  refine am_intro (plainFor_of_name (by decide +kernel)) (Nat.le_of_ble_eq_true rfl) (fun K hKl C hr hnm hz0 => ?_)
  replace C : CxOK K E RX3 cX3_at 5 := C
  have hE : E.1 + 1 ≤ (kS K).heap.size := by omega
  unfold fX3_at
  show Aw K E _ _ _ _ _ 0 [(0, rf E a0), (1, .int a1)] [] h0 _
  refine aw_lconst (pc := 0) (v := 0) C dX3_at_0 (by decide) ?_
  refine aw_lstore_n (pc := 1) (L' := [(2, .long 0), (0, rf E a0), (1, .int a1)]) C dX3_at_1 rfl (by decide) rfl ?_
  refine aw_iconst (pc := 2) (v := 0) C dX3_at_2 (by decide) ?_
  refine aw_istore (pc := 3) (L' := [(4, .int 0), (2, .long 0), (0, rf E a0), (1, .int a1)]) C dX3_at_3 (by decide) rfl ?_
  refine aw_sub (L' := [(0, rf E a0), (1, .int a1), (2, .long 0), (4, .int 0)]) [2, 3, 1, 0] rfl ?_
  refine aw_loop (pc := 5) (σ := Int64 × Int32) (fun s => [(0, rf E a0), (1, .int a1), (2, .long s.1), (4, .int s.2)]) (fun s => h0) _ (fun k3 ih4 s => ?_) _ _
  obtain ⟨v1, v2⟩ := s
  show Aw K E _ _ _ _ _ 5 [(0, rf E a0), (1, .int a1), (2, .long v1), (4, .int v2)] [] h0 _
  refine aw_iload (pc := 5) C dX3_at_5 3 rfl ?_
  refine aw_aload_n (pc := 7) C dX3_at_7 rfl 0 rfl ?_
  refine aw_getI (pc := 8) C fl_X3_15 dX3_at_8 (fun v5 ev5 => ?_)
  refine aw_icmp_gt (pc := 11) C 43 dX3_at_11 (by decide) (fun c13 => ?_) (fun c13 => ?_)
  · refine aw_lload_n (pc := 43) C dX3_at_43 rfl 2 rfl ?_
    exact aw_lreturn (pc := 44) C hr hz0 rfl dX3_at_44
  refine aw_iload (pc := 14) C dX3_at_14 3 rfl ?_
  refine aw_aload_n (pc := 16) C dX3_at_16 rfl 0 rfl ?_
  refine aw_getR (pc := 17) C fl_X3_18 dX3_at_17 (fun v6 ev6 => ?_)
  refine aw_arraylength (pc := 20) C dX3_at_20 (fun v7 ev7 => ?_)
  refine aw_icmp_ge (pc := 21) C 43 dX3_at_21 (by decide) (fun c12 => ?_) (fun c12 => ?_)
  · refine aw_lload_n (pc := 43) C dX3_at_43 rfl 2 rfl ?_
    exact aw_lreturn (pc := 44) C hr hz0 rfl dX3_at_44
  refine aw_lload_n (pc := 24) C dX3_at_24 rfl 2 rfl ?_
  refine aw_iload_n (pc := 25) C dX3_at_25 rfl 1 rfl ?_
  refine aw_i2l (pc := 26) C dX3_at_26 ?_
  refine aw_lmul (pc := 27) C dX3_at_27 ?_
  refine aw_aload_n (pc := 28) C dX3_at_28 rfl 0 rfl ?_
  refine aw_getR (pc := 29) C fl_X3_18 dX3_at_29 (fun v8 ev8 => ?_)
  refine aw_iload (pc := 32) C dX3_at_32 3 rfl ?_
  refine aw_laload (pc := 34) C dX3_at_34 (fun v9 ev9 => ?_)
  refine aw_ladd (pc := 35) C dX3_at_35 ?_
  refine aw_nmJ (pc := 36) (fun v10 ev10 => ?_)
  refine aw_lstore_n (pc := 36) (L' := [(2, .long v10), (0, rf E a0), (1, .int a1), (4, .int v2)]) C dX3_at_36 rfl (by decide) rfl ?_
  refine aw_iincN (pc := 37) (L1 := [(2, .long v10), (0, rf E a0), (1, .int a1)]) (k := 1) C dX3_at_37 3 rfl (by decide) (by decide) rfl (fun v11 ev11 => ?_)
  refine aw_goto (pc := 40) C 5 dX3_at_40 (by decide) ?_
  exact aw_sub (L' := [(0, rf E a0), (1, .int a1), (2, .long v10), (4, .int v11)]) [2, 3, 1, 0] rfl (ih4 (v10, v11))
def rmX3_greatestFrom : Room := { frames := 1, cells := 0, slots := 0, locals := 24 }
set_option maxHeartbeats 4000000 in
set_option maxRecDepth 100000 in
theorem okX3_greatestFrom (E : Ev) (l : Launch) (a0 : Nat) (a1 : Int32) (h0 : Mem) : AMet E l yX3_greatestFrom cX3_greatestFrom 7 (some (.int)) rmX3_greatestFrom [rf E a0, .int a1] h0 rvI (fX3_greatestFrom a0 a1 h0) := by
  refine am_intro (plainFor_of_name (by decide +kernel)) (Nat.le_of_ble_eq_true rfl) (fun K hKl C hr hnm hz0 => ?_)
  replace C : CxOK K E RX3 cX3_greatestFrom 7 := C
  have hE : E.1 + 1 ≤ (kS K).heap.size := by omega
  unfold fX3_greatestFrom
  show Aw K E _ _ _ _ _ 0 [(0, rf E a0), (1, .int a1)] [] h0 _
  refine aw_aload_n (pc := 0) C dX3_greatestFrom_0 rfl 0 rfl ?_
  refine aw_bipush (pc := 1) (v := 100) C dX3_greatestFrom_1 (by decide) ?_
  refine aw_callVJ (pc := 3) (R := rmX3_greatestFrom) (c := 3) (As := [.int 100]) (rest := []) (st := [.int 100, rf E a0]) (c' := 0) (s' := 0) C hE rfl (by decide) cal_X3_at ml_X3_46 rfl ⟨(Nat.le_of_ble_eq_true rfl), (Nat.le_of_ble_eq_true rfl)⟩ ⟨(Nat.le_of_ble_eq_true rfl), (Nat.le_of_ble_eq_true rfl)⟩ dX3_greatestFrom_3 (okX3_at E (kL K) a0 100 h0) rfl (Nat.le_of_ble_eq_true rfl) rfl rfl (fun v2 h1 eh1 => ?_)
  refine aw_lstore_n (pc := 6) (L' := [(2, .long v2), (0, rf E a0), (1, .int a1)]) C dX3_greatestFrom_6 rfl (by decide) rfl ?_
  refine aw_bipush (pc := 7) (v := 99) C dX3_greatestFrom_7 (by decide) ?_
  refine aw_istore (pc := 9) (L' := [(4, .int 99), (2, .long v2), (0, rf E a0), (1, .int a1)]) C dX3_greatestFrom_9 (by decide) rfl ?_
  refine aw_sub (L' := [(0, rf E a0), (1, .int a1), (2, .long v2), (4, .int 99)]) [2, 3, 1, 0] rfl ?_
  refine aw_loop (pc := 11) (σ := Int64 × Int32 × Mem) (fun s => [(0, rf E a0), (1, .int a1), (2, .long s.1), (4, .int s.2.1)]) (fun s => s.2.2) _ (fun k6 ih7 s => ?_) _ _
  obtain ⟨v3, v4, h5⟩ := s
  show Aw K E _ _ _ _ _ 11 [(0, rf E a0), (1, .int a1), (2, .long v3), (4, .int v4)] [] h5 _
  refine aw_iload (pc := 11) C dX3_greatestFrom_11 3 rfl ?_
  refine aw_iload_n (pc := 13) C dX3_greatestFrom_13 rfl 1 rfl ?_
  refine aw_icmp_lt (pc := 14) C 70 dX3_greatestFrom_14 (by decide) (fun c19 => ?_) (fun c19 => ?_)
  · refine aw_iconst (pc := 70) (v := (-1)) C dX3_greatestFrom_70 (by decide) ?_
    exact aw_ireturn (pc := 71) C hr rfl hz0 rfl dX3_greatestFrom_71
  refine aw_aload_n (pc := 17) C dX3_greatestFrom_17 rfl 0 rfl ?_
  refine aw_iload (pc := 18) C dX3_greatestFrom_18 3 rfl ?_
  refine aw_callVJ (pc := 20) (R := rmX3_greatestFrom) (c := 3) (As := [.int v4]) (rest := []) (st := [.int v4, rf E a0]) (c' := 0) (s' := 0) C hE rfl (by decide) cal_X3_at ml_X3_46 rfl ⟨(Nat.le_of_ble_eq_true rfl), (Nat.le_of_ble_eq_true rfl)⟩ ⟨(Nat.le_of_ble_eq_true rfl), (Nat.le_of_ble_eq_true rfl)⟩ dX3_greatestFrom_20 (okX3_at E (kL K) a0 v4 h5) rfl (Nat.le_of_ble_eq_true rfl) rfl rfl (fun v9 h8 eh8 => ?_)
  refine aw_lstore (pc := 23) (L' := [(5, .long v9), (0, rf E a0), (1, .int a1), (2, .long v3), (4, .int v4)]) C dX3_greatestFrom_23 (by decide) rfl ?_
  refine aw_lload (pc := 25) C dX3_greatestFrom_25 0 rfl ?_
  refine aw_lconst (pc := 27) (v := 0) C dX3_greatestFrom_27 (by decide) ?_
  refine aw_lcmp (pc := 28) C dX3_greatestFrom_28 ?_
  refine aw_if_eq (pc := 29) C 58 dX3_greatestFrom_29 (by decide) (fun c18 => ?_) (fun c18 => ?_)
  · refine aw_iload (pc := 58) C dX3_greatestFrom_58 4 rfl ?_
    exact aw_ireturn (pc := 60) C hr rfl hz0 rfl dX3_greatestFrom_60
  refine aw_lload (pc := 32) C dX3_greatestFrom_32 0 rfl ?_
  refine aw_lconst (pc := 34) (v := 0) C dX3_greatestFrom_34 (by decide) ?_
  refine aw_lcmp (pc := 35) C dX3_greatestFrom_35 ?_
  refine aw_jn (σ := Unit) 45 (fun s => [(0, rf E a0), (1, .int a1), (2, .long v3), (4, .int v4), (5, .long v9)]) (fun s => []) (fun s => h8) (fun s => ?_) (fun k10 jk11 => ?_)
  · show Aw K E _ _ _ _ _ 45 [(0, rf E a0), (1, .int a1), (2, .long v3), (4, .int v4), (5, .long v9)] [] h8 _
    refine aw_lload (pc := 45) C dX3_greatestFrom_45 4 rfl ?_
    refine aw_lconst (pc := 47) (v := 0) C dX3_greatestFrom_47 (by decide) ?_
    refine aw_lcmp (pc := 48) C dX3_greatestFrom_48 ?_
    refine aw_if_ge (pc := 49) C 61 dX3_greatestFrom_49 (by decide) (fun c15 => ?_) (fun c15 => ?_)
    · refine aw_lload (pc := 61) C dX3_greatestFrom_61 4 rfl ?_
      refine aw_lstore_n (pc := 63) (L' := [(2, .long v9), (0, rf E a0), (1, .int a1), (4, .int v4), (5, .long v9)]) C dX3_greatestFrom_63 rfl (by decide) rfl ?_
      refine aw_iincN (pc := 64) (L1 := [(2, .long v9), (0, rf E a0), (1, .int a1), (5, .long v9)]) (k := (-1)) C dX3_greatestFrom_64 3 rfl (by decide) (by decide) rfl (fun v14 ev14 => ?_)
      refine aw_goto (pc := 67) C 11 dX3_greatestFrom_67 (by decide) ?_
      exact aw_sub (L' := [(0, rf E a0), (1, .int a1), (2, .long v9), (4, .int v14)]) [2, 3, 1, 0] rfl (ih7 (v9, v14, h8))
    refine aw_lload_n (pc := 52) C dX3_greatestFrom_52 rfl 2 rfl ?_
    refine aw_lconst (pc := 53) (v := 0) C dX3_greatestFrom_53 (by decide) ?_
    refine aw_lcmp (pc := 54) C dX3_greatestFrom_54 ?_
    refine aw_if_le (pc := 55) C 61 dX3_greatestFrom_55 (by decide) (fun c13 => ?_) (fun c13 => ?_)
    · refine aw_lload (pc := 61) C dX3_greatestFrom_61 4 rfl ?_
      refine aw_lstore_n (pc := 63) (L' := [(2, .long v9), (0, rf E a0), (1, .int a1), (4, .int v4), (5, .long v9)]) C dX3_greatestFrom_63 rfl (by decide) rfl ?_
      refine aw_iincN (pc := 64) (L1 := [(2, .long v9), (0, rf E a0), (1, .int a1), (5, .long v9)]) (k := (-1)) C dX3_greatestFrom_64 3 rfl (by decide) (by decide) rfl (fun v12 ev12 => ?_)
      refine aw_goto (pc := 67) C 11 dX3_greatestFrom_67 (by decide) ?_
      exact aw_sub (L' := [(0, rf E a0), (1, .int a1), (2, .long v9), (4, .int v12)]) [2, 3, 1, 0] rfl (ih7 (v9, v12, h8))
    refine aw_iload (pc := 58) C dX3_greatestFrom_58 3 rfl ?_
    exact aw_ireturn (pc := 60) C hr rfl hz0 rfl dX3_greatestFrom_60
  refine aw_if_le (pc := 36) C 45 dX3_greatestFrom_36 (by decide) (fun c17 => ?_) (fun c17 => ?_)
  · exact aw_sub (L' := [(0, rf E a0), (1, .int a1), (2, .long v3), (4, .int v4), (5, .long v9)]) [1, 2, 3, 4, 0] rfl (jk11 ())
  refine aw_lload_n (pc := 39) C dX3_greatestFrom_39 rfl 3 rfl ?_
  refine aw_lconst (pc := 40) (v := 0) C dX3_greatestFrom_40 (by decide) ?_
  refine aw_lcmp (pc := 41) C dX3_greatestFrom_41 ?_
  refine aw_if_lt (pc := 42) C 58 dX3_greatestFrom_42 (by decide) (fun c16 => ?_) (fun c16 => ?_)
  · refine aw_iload (pc := 58) C dX3_greatestFrom_58 4 rfl ?_
    exact aw_ireturn (pc := 60) C hr rfl hz0 rfl dX3_greatestFrom_60
  exact aw_sub (L' := [(0, rf E a0), (1, .int a1), (2, .long v3), (4, .int v4), (5, .long v9)]) [1, 2, 3, 4, 0] rfl (jk11 ())
def rmX3_keep : Room := { frames := 0, cells := 0, slots := 0, locals := 0 }
set_option maxHeartbeats 4000000 in
set_option maxRecDepth 100000 in
theorem okX3_keep (E : Ev) (l : Launch) (a0 : Nat) (a1 : Int32) (h0 : Mem) : AMet E l yX3_keep cX3_keep 10 none rmX3_keep [rf E a0, .int a1] h0 rvV (fX3_keep a0 a1 h0) := by
  refine am_intro (plainFor_of_name (by decide +kernel)) (Nat.le_of_ble_eq_true rfl) (fun K hKl C hr hnm hz0 => ?_)
  replace C : CxOK K E RX3 cX3_keep 10 := C
  have hE : E.1 + 1 ≤ (kS K).heap.size := by omega
  unfold fX3_keep
  show Aw K E _ _ _ _ _ 0 [(0, rf E a0), (1, .int a1)] [] h0 _
  refine aw_aload_n (pc := 0) C dX3_keep_0 rfl 0 rfl ?_
  refine aw_getI (pc := 1) C fl_X3_9 dX3_keep_1 (fun v1 ev1 => ?_)
  refine aw_if_lt (pc := 4) C 16 dX3_keep_4 (by decide) (fun c49 => ?_) (fun c49 => ?_)
  · exact aw_return (pc := 16) C hr hz0 rfl dX3_keep_16
  refine aw_aload_n (pc := 7) C dX3_keep_7 rfl 0 rfl ?_
  refine aw_getI (pc := 8) C fl_X3_9 dX3_keep_8 (fun v2 ev2 => ?_)
  refine aw_bipush (pc := 11) (v := 8) C dX3_keep_11 (by decide) ?_
  refine aw_icmp_lt (pc := 13) C 17 dX3_keep_13 (by decide) (fun c48 => ?_) (fun c48 => ?_)
  · refine aw_aload_n (pc := 17) C dX3_keep_17 rfl 0 rfl ?_
    refine aw_getI (pc := 18) C fl_X3_9 dX3_keep_18 (fun v3 ev3 => ?_)
    refine aw_jn (σ := Int64) 39 (fun s => [(0, rf E a0), (1, .int a1)]) (fun s => [.long s]) (fun s => h0) (fun s => ?_) (fun k5 jk6 => ?_)
    · generalize s = v4
      show Aw K E _ _ _ _ _ 39 [(0, rf E a0), (1, .int a1)] [.long v4] h0 _
      refine aw_lstore_n (pc := 39) (L' := [(2, .long v4), (0, rf E a0), (1, .int a1)]) C dX3_keep_39 rfl (by decide) rfl ?_
      refine aw_aload_n (pc := 40) C dX3_keep_40 rfl 1 rfl ?_
      refine aw_getI (pc := 41) C fl_X3_9 dX3_keep_41 (fun v7 ev7 => ?_)
      refine aw_jn (σ := Int64) 62 (fun s => [(0, rf E a0), (1, .int a1), (2, .long v4)]) (fun s => [.long s]) (fun s => h0) (fun s => ?_) (fun k9 jk10 => ?_)
      · generalize s = v8
        show Aw K E _ _ _ _ _ 62 [(0, rf E a0), (1, .int a1), (2, .long v4)] [.long v8] h0 _
        refine aw_lstore (pc := 62) (L' := [(4, .long v8), (0, rf E a0), (1, .int a1), (2, .long v4)]) C dX3_keep_62 (by decide) rfl ?_
        refine aw_aload_n (pc := 64) C dX3_keep_64 rfl 1 rfl ?_
        refine aw_getI (pc := 65) C fl_X3_9 dX3_keep_65 (fun v11 ev11 => ?_)
        refine aw_iconst (pc := 68) (v := 1) C dX3_keep_68 (by decide) ?_
        refine aw_jn (σ := Int64) 91 (fun s => [(0, rf E a0), (1, .int a1), (2, .long v4), (4, .long v8)]) (fun s => [.long s]) (fun s => h0) (fun s => ?_) (fun k13 jk14 => ?_)
        · generalize s = v12
          show Aw K E _ _ _ _ _ 91 [(0, rf E a0), (1, .int a1), (2, .long v4), (4, .long v8)] [.long v12] h0 _
          refine aw_lstore (pc := 91) (L' := [(6, .long v12), (0, rf E a0), (1, .int a1), (2, .long v4), (4, .long v8)]) C dX3_keep_91 (by decide) rfl ?_
          refine aw_aload_n (pc := 93) C dX3_keep_93 rfl 1 rfl ?_
          refine aw_getI (pc := 94) C fl_X3_9 dX3_keep_94 (fun v15 ev15 => ?_)
          refine aw_iconst (pc := 97) (v := 1) C dX3_keep_97 (by decide) ?_
          refine aw_jn (σ := Int64) 122 (fun s => [(0, rf E a0), (1, .int a1), (2, .long v4), (4, .long v8), (6, .long v12)]) (fun s => [.long s]) (fun s => h0) (fun s => ?_) (fun k17 jk18 => ?_)
          · generalize s = v16
            show Aw K E _ _ _ _ _ 122 [(0, rf E a0), (1, .int a1), (2, .long v4), (4, .long v8), (6, .long v12)] [.long v16] h0 _
            refine aw_lstore (pc := 122) (L' := [(8, .long v16), (0, rf E a0), (1, .int a1), (2, .long v4), (4, .long v8), (6, .long v12)]) C dX3_keep_122 (by decide) rfl ?_
            refine aw_aload_n (pc := 124) C dX3_keep_124 rfl 1 rfl ?_
            refine aw_getR (pc := 125) C fl_X3_22 dX3_keep_125 (fun v19 ev19 => ?_)
            refine aw_aload_n (pc := 128) C dX3_keep_128 rfl 1 rfl ?_
            refine aw_getI (pc := 129) C fl_X3_9 dX3_keep_129 (fun v20 ev20 => ?_)
            refine aw_iload_n (pc := 132) C dX3_keep_132 rfl 2 rfl ?_
            refine aw_iastore (pc := 133) C dX3_keep_133 (fun h21 eh21 => ?_)
            refine aw_aload_n (pc := 134) C dX3_keep_134 rfl 1 rfl ?_
            refine aw_getR (pc := 135) C fl_X3_26 dX3_keep_135 (fun v22 ev22 => ?_)
            refine aw_aload_n (pc := 138) C dX3_keep_138 rfl 1 rfl ?_
            refine aw_getI (pc := 139) C fl_X3_9 dX3_keep_139 (fun v23 ev23 => ?_)
            refine aw_iload_n (pc := 142) C dX3_keep_142 rfl 2 rfl ?_
            refine aw_i2l (pc := 143) C dX3_keep_143 ?_
            refine aw_lload_n (pc := 144) C dX3_keep_144 rfl 3 rfl ?_
            refine aw_lmul (pc := 145) C dX3_keep_145 ?_
            refine aw_lload (pc := 146) C dX3_keep_146 5 rfl ?_
            refine aw_ladd (pc := 148) C dX3_keep_148 ?_
            refine aw_lastore (pc := 149) C dX3_keep_149 (fun h24 eh24 => ?_)
            refine aw_aload_n (pc := 150) C dX3_keep_150 rfl 1 rfl ?_
            refine aw_getR (pc := 151) C fl_X3_29 dX3_keep_151 (fun v25 ev25 => ?_)
            refine aw_aload_n (pc := 154) C dX3_keep_154 rfl 1 rfl ?_
            refine aw_getI (pc := 155) C fl_X3_9 dX3_keep_155 (fun v26 ev26 => ?_)
            refine aw_iload_n (pc := 158) C dX3_keep_158 rfl 2 rfl ?_
            refine aw_i2l (pc := 159) C dX3_keep_159 ?_
            refine aw_lload (pc := 160) C dX3_keep_160 4 rfl ?_
            refine aw_lmul (pc := 162) C dX3_keep_162 ?_
            refine aw_lload (pc := 163) C dX3_keep_163 0 rfl ?_
            refine aw_ladd (pc := 165) C dX3_keep_165 ?_
            refine aw_lastore (pc := 166) C dX3_keep_166 (fun h27 eh27 => ?_)
            refine aw_aload_n (pc := 167) C dX3_keep_167 rfl 1 rfl ?_
            refine aw_dup (pc := 168) C rfl dX3_keep_168 ?_
            refine aw_getI (pc := 169) C fl_X3_9 dX3_keep_169 (fun v28 ev28 => ?_)
            refine aw_iconst (pc := 172) (v := 1) C dX3_keep_172 (by decide) ?_
            refine aw_iadd (pc := 173) C dX3_keep_173 ?_
            refine aw_putI (pc := 174) C fw_X3_9 rfl rfl dX3_keep_174 (fun h29 eh29 => ?_)
            exact aw_return (pc := 177) C hr hz0 rfl dX3_keep_177
          refine aw_icmp_le (pc := 98) C 115 dX3_keep_98 (by decide) (fun c34 => ?_) (fun c34 => ?_)
          · refine aw_iconst (pc := 115) (v := 1) C dX3_keep_115 (by decide) ?_
            refine aw_aload_n (pc := 116) C dX3_keep_116 rfl 1 rfl ?_
            refine aw_getI (pc := 117) C fl_X3_9 dX3_keep_117 (fun v33 ev33 => ?_)
            refine aw_isub (pc := 120) C dX3_keep_120 ?_
            refine aw_i2l (pc := 121) C dX3_keep_121 ?_
            exact aw_sub (L' := [(0, rf E a0), (1, .int a1), (2, .long v4), (4, .long v8), (6, .long v12)]) [1, 2, 3, 4, 0] rfl (jk18 ((1 - v33).toInt64))
          refine aw_aload_n (pc := 101) C dX3_keep_101 rfl 1 rfl ?_
          refine aw_getR (pc := 102) C fl_X3_29 dX3_keep_102 (fun v30 ev30 => ?_)
          refine aw_aload_n (pc := 105) C dX3_keep_105 rfl 1 rfl ?_
          refine aw_getI (pc := 106) C fl_X3_9 dX3_keep_106 (fun v31 ev31 => ?_)
          refine aw_iconst (pc := 109) (v := 2) C dX3_keep_109 (by decide) ?_
          refine aw_isub (pc := 110) C dX3_keep_110 ?_
          refine aw_laload (pc := 111) C dX3_keep_111 (fun v32 ev32 => ?_)
          refine aw_goto (pc := 112) C 122 dX3_keep_112 (by decide) ?_
          exact aw_sub (L' := [(0, rf E a0), (1, .int a1), (2, .long v4), (4, .long v8), (6, .long v12)]) [1, 2, 3, 4, 0] rfl (jk18 v32)
        refine aw_icmp_le (pc := 69) C 86 dX3_keep_69 (by decide) (fun c39 => ?_) (fun c39 => ?_)
        · refine aw_aload_n (pc := 86) C dX3_keep_86 rfl 1 rfl ?_
          refine aw_getI (pc := 87) C fl_X3_9 dX3_keep_87 (fun v38 ev38 => ?_)
          refine aw_i2l (pc := 90) C dX3_keep_90 ?_
          exact aw_sub (L' := [(0, rf E a0), (1, .int a1), (2, .long v4), (4, .long v8)]) [1, 2, 3, 0] rfl (jk14 v38.toInt64)
        refine aw_aload_n (pc := 72) C dX3_keep_72 rfl 1 rfl ?_
        refine aw_getR (pc := 73) C fl_X3_26 dX3_keep_73 (fun v35 ev35 => ?_)
        refine aw_aload_n (pc := 76) C dX3_keep_76 rfl 1 rfl ?_
        refine aw_getI (pc := 77) C fl_X3_9 dX3_keep_77 (fun v36 ev36 => ?_)
        refine aw_iconst (pc := 80) (v := 2) C dX3_keep_80 (by decide) ?_
        refine aw_isub (pc := 81) C dX3_keep_81 ?_
        refine aw_laload (pc := 82) C dX3_keep_82 (fun v37 ev37 => ?_)
        refine aw_goto (pc := 83) C 91 dX3_keep_83 (by decide) ?_
        exact aw_sub (L' := [(0, rf E a0), (1, .int a1), (2, .long v4), (4, .long v8)]) [1, 2, 3, 0] rfl (jk14 v37)
      refine aw_if_le (pc := 44) C 61 dX3_keep_44 (by decide) (fun c43 => ?_) (fun c43 => ?_)
      · refine aw_lconst (pc := 61) (v := 0) C dX3_keep_61 (by decide) ?_
        exact aw_sub (L' := [(0, rf E a0), (1, .int a1), (2, .long v4)]) [1, 2, 0] rfl (jk10 0)
      refine aw_aload_n (pc := 47) C dX3_keep_47 rfl 1 rfl ?_
      refine aw_getR (pc := 48) C fl_X3_29 dX3_keep_48 (fun v40 ev40 => ?_)
      refine aw_aload_n (pc := 51) C dX3_keep_51 rfl 1 rfl ?_
      refine aw_getI (pc := 52) C fl_X3_9 dX3_keep_52 (fun v41 ev41 => ?_)
      refine aw_iconst (pc := 55) (v := 1) C dX3_keep_55 (by decide) ?_
      refine aw_isub (pc := 56) C dX3_keep_56 ?_
      refine aw_laload (pc := 57) C dX3_keep_57 (fun v42 ev42 => ?_)
      refine aw_goto (pc := 58) C 62 dX3_keep_58 (by decide) ?_
      exact aw_sub (L' := [(0, rf E a0), (1, .int a1), (2, .long v4)]) [1, 2, 0] rfl (jk10 v42)
    refine aw_if_le (pc := 21) C 38 dX3_keep_21 (by decide) (fun c47 => ?_) (fun c47 => ?_)
    · refine aw_lconst (pc := 38) (v := 1) C dX3_keep_38 (by decide) ?_
      exact aw_sub (L' := [(0, rf E a0), (1, .int a1)]) [0, 1] rfl (jk6 1)
    refine aw_aload_n (pc := 24) C dX3_keep_24 rfl 0 rfl ?_
    refine aw_getR (pc := 25) C fl_X3_26 dX3_keep_25 (fun v44 ev44 => ?_)
    refine aw_aload_n (pc := 28) C dX3_keep_28 rfl 0 rfl ?_
    refine aw_getI (pc := 29) C fl_X3_9 dX3_keep_29 (fun v45 ev45 => ?_)
    refine aw_iconst (pc := 32) (v := 1) C dX3_keep_32 (by decide) ?_
    refine aw_isub (pc := 33) C dX3_keep_33 ?_
    refine aw_laload (pc := 34) C dX3_keep_34 (fun v46 ev46 => ?_)
    refine aw_goto (pc := 35) C 39 dX3_keep_35 (by decide) ?_
    exact aw_sub (L' := [(0, rf E a0), (1, .int a1)]) [0, 1] rfl (jk6 v46)
  exact aw_return (pc := 16) C hr hz0 rfl dX3_keep_16
def rmX3_goBehind : Room := { frames := 0, cells := 0, slots := 0, locals := 0 }
set_option maxHeartbeats 4000000 in
set_option maxRecDepth 100000 in
theorem okX3_goBehind (E : Ev) (l : Launch) (a0 : Nat) (a1 : Int32) (h0 : Mem) : AMet E l yX3_goBehind cX3_goBehind 6 none rmX3_goBehind [rf E a0, .int a1] h0 rvV (fX3_goBehind a0 a1 h0) := by
  refine am_intro (plainFor_of_name (by decide +kernel)) (Nat.le_of_ble_eq_true rfl) (fun K hKl C hr hnm hz0 => ?_)
  replace C : CxOK K E RX3 cX3_goBehind 6 := C
  have hE : E.1 + 1 ≤ (kS K).heap.size := by omega
  unfold fX3_goBehind
  show Aw K E _ _ _ _ _ 0 [(0, rf E a0), (1, .int a1)] [] h0 _
  refine aw_aload_n (pc := 0) C dX3_goBehind_0 rfl 0 rfl ?_
  refine aw_getI (pc := 1) C fl_X3_15 dX3_goBehind_1 (fun v1 ev1 => ?_)
  refine aw_istore_n (pc := 4) (L' := [(2, .int v1), (0, rf E a0), (1, .int a1)]) C dX3_goBehind_4 rfl (by decide) rfl ?_
  refine aw_sub (L' := [(0, rf E a0), (1, .int a1), (2, .int v1)]) [1, 2, 0] rfl ?_
  refine aw_loop (pc := 5) (σ := Int32 × Mem) (fun s => [(0, rf E a0), (1, .int a1), (2, .int s.1)]) (fun s => s.2) _ (fun k4 ih5 s => ?_) _ _
  obtain ⟨v2, h3⟩ := s
  show Aw K E _ _ _ _ _ 5 [(0, rf E a0), (1, .int a1), (2, .int v2)] [] h3 _
  refine aw_iload_n (pc := 5) C dX3_goBehind_5 rfl 2 rfl ?_
  refine aw_if_le (pc := 6) C 57 dX3_goBehind_6 (by decide) (fun c42 => ?_) (fun c42 => ?_)
  · refine aw_iconst (pc := 57) (v := 0) C dX3_goBehind_57 (by decide) ?_
    refine aw_istore_n (pc := 58) (L' := [(2, .int 0), (0, rf E a0), (1, .int a1)]) C dX3_goBehind_58 rfl (by decide) rfl ?_
    refine aw_aload_n (pc := 59) C dX3_goBehind_59 rfl 1 rfl ?_
    refine aw_getI (pc := 60) C fl_X3_15 dX3_goBehind_60 (fun v22 ev22 => ?_)
    refine aw_istore_n (pc := 63) (L' := [(3, .int v22), (2, .int 0), (0, rf E a0), (1, .int a1)]) C dX3_goBehind_63 rfl (by decide) rfl ?_
    refine aw_sub (L' := [(0, rf E a0), (2, .int 0), (3, .int v22)]) [2, 1, 0] rfl ?_
    refine aw_loop (pc := 64) (σ := Int32 × Int32 × Mem) (fun s => [(0, rf E a0), (2, .int s.1), (3, .int s.2.1)]) (fun s => s.2.2) _ (fun k26 ih27 s => ?_) _ _
    obtain ⟨v23, v24, h25⟩ := s
    show Aw K E _ _ _ _ _ 64 [(0, rf E a0), (2, .int v23), (3, .int v24)] [] h25 _
    refine aw_iload_n (pc := 64) C dX3_goBehind_64 rfl 1 rfl ?_
    refine aw_iload_n (pc := 65) C dX3_goBehind_65 rfl 2 rfl ?_
    refine aw_icmp_ge (pc := 66) C 115 dX3_goBehind_66 (by decide) (fun c41 => ?_) (fun c41 => ?_)
    · exact aw_return (pc := 115) C hr hz0 rfl dX3_goBehind_115
    refine aw_iload_n (pc := 69) C dX3_goBehind_69 rfl 2 rfl ?_
    refine aw_aload_n (pc := 70) C dX3_goBehind_70 rfl 0 rfl ?_
    refine aw_getR (pc := 71) C fl_X3_18 dX3_goBehind_71 (fun v28 ev28 => ?_)
    refine aw_arraylength (pc := 74) C dX3_goBehind_74 (fun v29 ev29 => ?_)
    refine aw_icmp_ge (pc := 75) C 115 dX3_goBehind_75 (by decide) (fun c40 => ?_) (fun c40 => ?_)
    · exact aw_return (pc := 115) C hr hz0 rfl dX3_goBehind_115
    refine aw_aload_n (pc := 78) C dX3_goBehind_78 rfl 0 rfl ?_
    refine aw_getR (pc := 79) C fl_X3_18 dX3_goBehind_79 (fun v30 ev30 => ?_)
    refine aw_iload_n (pc := 82) C dX3_goBehind_82 rfl 1 rfl ?_
    refine aw_laload (pc := 83) C dX3_goBehind_83 (fun v31 ev31 => ?_)
    refine aw_lstore (pc := 84) (L' := [(4, .long v31), (0, rf E a0), (2, .int v23), (3, .int v24)]) C dX3_goBehind_84 (by decide) rfl ?_
    refine aw_aload_n (pc := 86) C dX3_goBehind_86 rfl 1 rfl ?_
    refine aw_getR (pc := 87) C fl_X3_18 dX3_goBehind_87 (fun v32 ev32 => ?_)
    refine aw_iload_n (pc := 90) C dX3_goBehind_90 rfl 2 rfl ?_
    refine aw_aload_n (pc := 91) C dX3_goBehind_91 rfl 1 rfl ?_
    refine aw_getR (pc := 92) C fl_X3_18 dX3_goBehind_92 (fun v33 ev33 => ?_)
    refine aw_iload_n (pc := 95) C dX3_goBehind_95 rfl 3 rfl ?_
    refine aw_laload (pc := 96) C dX3_goBehind_96 (fun v34 ev34 => ?_)
    refine aw_lastore (pc := 97) C dX3_goBehind_97 (fun h35 eh35 => ?_)
    refine aw_aload_n (pc := 98) C dX3_goBehind_98 rfl 1 rfl ?_
    refine aw_getR (pc := 99) C fl_X3_18 dX3_goBehind_99 (fun v36 ev36 => ?_)
    refine aw_iload_n (pc := 102) C dX3_goBehind_102 rfl 3 rfl ?_
    refine aw_lload (pc := 103) C dX3_goBehind_103 0 rfl ?_
    refine aw_lastore (pc := 105) C dX3_goBehind_105 (fun h37 eh37 => ?_)
    refine aw_iincN (pc := 106) (L1 := [(4, .long v31), (0, rf E a0), (3, .int v24)]) (k := 1) C dX3_goBehind_106 2 rfl (by decide) (by decide) rfl (fun v38 ev38 => ?_)
    refine aw_iincN (pc := 109) (L1 := [(2, .int v38), (4, .long v31), (0, rf E a0)]) (k := (-1)) C dX3_goBehind_109 3 rfl (by decide) (by decide) rfl (fun v39 ev39 => ?_)
    refine aw_goto (pc := 112) C 64 dX3_goBehind_112 (by decide) ?_
    exact aw_sub (L' := [(0, rf E a0), (2, .int v38), (3, .int v39)]) [3, 1, 0] rfl (ih27 (v38, v39, h37))
  refine aw_iconst (pc := 9) (v := 1) C dX3_goBehind_9 (by decide) ?_
  refine aw_istore_n (pc := 10) (L' := [(3, .int 1), (0, rf E a0), (1, .int a1), (2, .int v2)]) C dX3_goBehind_10 rfl (by decide) rfl ?_
  refine aw_sub (L' := [(0, rf E a0), (1, .int a1), (2, .int v2), (3, .int 1)]) [1, 2, 3, 0] rfl ?_
  refine aw_loop (pc := 11) (σ := Int32 × Mem) (fun s => [(0, rf E a0), (1, .int a1), (2, .int v2), (3, .int s.1)]) (fun s => s.2) _ (fun k8 ih9 s => ?_) _ _
  obtain ⟨v6, h7⟩ := s
  show Aw K E _ _ _ _ _ 11 [(0, rf E a0), (1, .int a1), (2, .int v2), (3, .int v6)] [] h7 _
  refine aw_iload_n (pc := 11) C dX3_goBehind_11 rfl 3 rfl ?_
  refine aw_iload_n (pc := 12) C dX3_goBehind_12 rfl 2 rfl ?_
  refine aw_icmp_gt (pc := 13) C 51 dX3_goBehind_13 (by decide) (fun c21 => ?_) (fun c21 => ?_)
  · refine aw_iincN (pc := 51) (L1 := [(0, rf E a0), (1, .int a1), (3, .int v6)]) (k := (-1)) C dX3_goBehind_51 2 rfl (by decide) (by decide) rfl (fun v20 ev20 => ?_)
    refine aw_goto (pc := 54) C 5 dX3_goBehind_54 (by decide) ?_
    exact aw_sub (L' := [(0, rf E a0), (1, .int a1), (2, .int v20)]) [1, 2, 0] rfl (ih5 (v20, h7))
  refine aw_iload_n (pc := 16) C dX3_goBehind_16 rfl 3 rfl ?_
  refine aw_aload_n (pc := 17) C dX3_goBehind_17 rfl 0 rfl ?_
  refine aw_getR (pc := 18) C fl_X3_18 dX3_goBehind_18 (fun v10 ev10 => ?_)
  refine aw_arraylength (pc := 21) C dX3_goBehind_21 (fun v11 ev11 => ?_)
  refine aw_icmp_ge (pc := 22) C 51 dX3_goBehind_22 (by decide) (fun c19 => ?_) (fun c19 => ?_)
  · refine aw_iincN (pc := 51) (L1 := [(0, rf E a0), (1, .int a1), (3, .int v6)]) (k := (-1)) C dX3_goBehind_51 2 rfl (by decide) (by decide) rfl (fun v18 ev18 => ?_)
    refine aw_goto (pc := 54) C 5 dX3_goBehind_54 (by decide) ?_
    exact aw_sub (L' := [(0, rf E a0), (1, .int a1), (2, .int v18)]) [1, 2, 0] rfl (ih5 (v18, h7))
  refine aw_aload_n (pc := 25) C dX3_goBehind_25 rfl 0 rfl ?_
  refine aw_getR (pc := 26) C fl_X3_18 dX3_goBehind_26 (fun v12 ev12 => ?_)
  refine aw_iload_n (pc := 29) C dX3_goBehind_29 rfl 3 rfl ?_
  refine aw_dup2 (pc := 30) C rfl rfl dX3_goBehind_30 ?_
  refine aw_laload (pc := 31) C dX3_goBehind_31 (fun v13 ev13 => ?_)
  refine aw_iload_n (pc := 32) C dX3_goBehind_32 rfl 1 rfl ?_
  refine aw_i2l (pc := 33) C dX3_goBehind_33 ?_
  refine aw_aload_n (pc := 34) C dX3_goBehind_34 rfl 0 rfl ?_
  refine aw_getR (pc := 35) C fl_X3_18 dX3_goBehind_35 (fun v14 ev14 => ?_)
  refine aw_iload_n (pc := 38) C dX3_goBehind_38 rfl 3 rfl ?_
  refine aw_iconst (pc := 39) (v := 1) C dX3_goBehind_39 (by decide) ?_
  refine aw_isub (pc := 40) C dX3_goBehind_40 ?_
  refine aw_laload (pc := 41) C dX3_goBehind_41 (fun v15 ev15 => ?_)
  refine aw_lmul (pc := 42) C dX3_goBehind_42 ?_
  refine aw_ladd (pc := 43) C dX3_goBehind_43 ?_
  refine aw_lastore (pc := 44) C dX3_goBehind_44 (fun h16 eh16 => ?_)
  refine aw_iincN (pc := 45) (L1 := [(0, rf E a0), (1, .int a1), (2, .int v2)]) (k := 1) C dX3_goBehind_45 3 rfl (by decide) (by decide) rfl (fun v17 ev17 => ?_)
  refine aw_goto (pc := 48) C 11 dX3_goBehind_48 (by decide) ?_
  exact aw_sub (L' := [(0, rf E a0), (1, .int a1), (2, .int v2), (3, .int v17)]) [1, 2, 3, 0] rfl (ih9 (v17, h16))
def rmX3_isRowBeyond : Room := { frames := 0, cells := 0, slots := 0, locals := 0 }
set_option maxHeartbeats 4000000 in
set_option maxRecDepth 100000 in
theorem okX3_isRowBeyond (E : Ev) (l : Launch) (a0 : Nat) (h0 : Mem) : AMet E l yX3_isRowBeyond cX3_isRowBeyond 2 (some (.boolean)) rmX3_isRowBeyond [rf E a0] h0 rvI (fX3_isRowBeyond a0 h0) := by
  refine am_intro (plainFor_of_name (by decide +kernel)) (Nat.le_of_ble_eq_true rfl) (fun K hKl C hr hnm hz0 => ?_)
  replace C : CxOK K E RX3 cX3_isRowBeyond 2 := C
  have hE : E.1 + 1 ≤ (kS K).heap.size := by omega
  unfold fX3_isRowBeyond
  show Aw K E _ _ _ _ _ 0 [(0, rf E a0)] [] h0 _
  refine aw_iconst (pc := 0) (v := 0) C dX3_isRowBeyond_0 (by decide) ?_
  refine aw_istore_n (pc := 1) (L' := [(1, .int 0), (0, rf E a0)]) C dX3_isRowBeyond_1 rfl (by decide) rfl ?_
  refine aw_sub (L' := [(0, rf E a0), (1, .int 0)]) [1, 0] rfl ?_
  refine aw_loop (pc := 2) (σ := Int32) (fun s => [(0, rf E a0), (1, .int s)]) (fun s => h0) _ (fun k2 ih3 s => ?_) _ _
  generalize s = v1
  show Aw K E _ _ _ _ _ 2 [(0, rf E a0), (1, .int v1)] [] h0 _
  refine aw_iload_n (pc := 2) C dX3_isRowBeyond_2 rfl 1 rfl ?_
  refine aw_aload_n (pc := 3) C dX3_isRowBeyond_3 rfl 0 rfl ?_
  refine aw_getR (pc := 4) C fl_X3_18 dX3_isRowBeyond_4 (fun v4 ev4 => ?_)
  refine aw_arraylength (pc := 7) C dX3_isRowBeyond_7 (fun v5 ev5 => ?_)
  refine aw_icmp_ge (pc := 8) C 45 dX3_isRowBeyond_8 (by decide) (fun c13 => ?_) (fun c13 => ?_)
  · refine aw_iconst (pc := 45) (v := 0) C dX3_isRowBeyond_45 (by decide) ?_
    exact aw_ireturn (pc := 46) C hr rfl hz0 rfl dX3_isRowBeyond_46
  refine aw_aload_n (pc := 11) C dX3_isRowBeyond_11 rfl 0 rfl ?_
  refine aw_getR (pc := 12) C fl_X3_18 dX3_isRowBeyond_12 (fun v6 ev6 => ?_)
  refine aw_iload_n (pc := 15) C dX3_isRowBeyond_15 rfl 1 rfl ?_
  refine aw_laload (pc := 16) C dX3_isRowBeyond_16 (fun v7 ev7 => ?_)
  refine aw_ldc2 (pc := 17) (v := 1000000000) C kc_X3_57 dX3_isRowBeyond_17 ?_
  refine aw_lcmp (pc := 20) C dX3_isRowBeyond_20 ?_
  refine aw_if_gt (pc := 21) C 37 dX3_isRowBeyond_21 (by decide) (fun c12 => ?_) (fun c12 => ?_)
  · refine aw_iconst (pc := 37) (v := 1) C dX3_isRowBeyond_37 (by decide) ?_
    exact aw_ireturn (pc := 38) C hr rfl hz0 rfl dX3_isRowBeyond_38
  refine aw_aload_n (pc := 24) C dX3_isRowBeyond_24 rfl 0 rfl ?_
  refine aw_getR (pc := 25) C fl_X3_18 dX3_isRowBeyond_25 (fun v8 ev8 => ?_)
  refine aw_iload_n (pc := 28) C dX3_isRowBeyond_28 rfl 1 rfl ?_
  refine aw_laload (pc := 29) C dX3_isRowBeyond_29 (fun v9 ev9 => ?_)
  refine aw_ldc2 (pc := 30) (v := (-1000000000)) C kc_X3_59 dX3_isRowBeyond_30 ?_
  refine aw_lcmp (pc := 33) C dX3_isRowBeyond_33 ?_
  refine aw_if_ge (pc := 34) C 39 dX3_isRowBeyond_34 (by decide) (fun c11 => ?_) (fun c11 => ?_)
  · refine aw_iincN (pc := 39) (L1 := [(0, rf E a0)]) (k := 1) C dX3_isRowBeyond_39 1 rfl (by decide) (by decide) rfl (fun v10 ev10 => ?_)
    refine aw_goto (pc := 42) C 2 dX3_isRowBeyond_42 (by decide) ?_
    exact aw_sub (L' := [(0, rf E a0), (1, .int v10)]) [1, 0] rfl (ih3 v10)
  refine aw_iconst (pc := 37) (v := 1) C dX3_isRowBeyond_37 (by decide) ?_
  exact aw_ireturn (pc := 38) C hr rfl hz0 rfl dX3_isRowBeyond_38
def rmX3_look : Room := { frames := 2, cells := 0, slots := 0, locals := 50 }
set_option maxHeartbeats 4000000 in
set_option maxRecDepth 100000 in
theorem okX3_look (E : Ev) (l : Launch) (a0 : Nat) (a1 : Nat) (h0 : Mem) : AMet E l yX3_look cX3_look 4 none rmX3_look [rf E a0, rf E a1] h0 rvV (fX3_look a0 a1 h0) := by
  refine am_intro (plainFor_of_name (by decide +kernel)) (Nat.le_of_ble_eq_true rfl) (fun K hKl C hr hnm hz0 => ?_)
  replace C : CxOK K E RX3 cX3_look 4 := C
  have hE : E.1 + 1 ≤ (kS K).heap.size := by omega
  unfold fX3_look
  show Aw K E _ _ _ _ _ 0 [(0, rf E a0), (1, rf E a1)] [] h0 _
  refine aw_aload_n (pc := 0) C dX3_look_0 rfl 0 rfl ?_
  refine aw_iconst (pc := 1) (v := 0) C dX3_look_1 (by decide) ?_
  refine aw_putI (pc := 2) C fw_X3_9 rfl rfl dX3_look_2 (fun h1 eh1 => ?_)
  refine aw_aload_n (pc := 5) C dX3_look_5 rfl 0 rfl ?_
  refine aw_aload_n (pc := 6) C dX3_look_6 rfl 1 rfl ?_
  refine aw_getI (pc := 7) C fl_X3_32 dX3_look_7 (fun v2 ev2 => ?_)
  refine aw_putI (pc := 10) C fw_X3_15 rfl rfl dX3_look_10 (fun h3 eh3 => ?_)
  refine aw_iconst (pc := 13) (v := 0) C dX3_look_13 (by decide) ?_
  refine aw_istore_n (pc := 14) (L' := [(2, .int 0), (0, rf E a0), (1, rf E a1)]) C dX3_look_14 rfl (by decide) rfl ?_
  refine aw_sub (L' := [(0, rf E a0), (1, rf E a1), (2, .int 0)]) [1, 2, 0] rfl ?_
  refine aw_loop (pc := 15) (σ := Int32 × Mem) (fun s => [(0, rf E a0), (1, rf E a1), (2, .int s.1)]) (fun s => s.2) _ (fun k6 ih7 s => ?_) _ _
  obtain ⟨v4, h5⟩ := s
  show Aw K E _ _ _ _ _ 15 [(0, rf E a0), (1, rf E a1), (2, .int v4)] [] h5 _
  refine aw_iload_n (pc := 15) C dX3_look_15 rfl 2 rfl ?_
  refine aw_aload_n (pc := 16) C dX3_look_16 rfl 0 rfl ?_
  refine aw_getR (pc := 17) C fl_X3_18 dX3_look_17 (fun v8 ev8 => ?_)
  refine aw_arraylength (pc := 20) C dX3_look_20 (fun v9 ev9 => ?_)
  refine aw_icmp_ge (pc := 21) C 42 dX3_look_21 (by decide) (fun c36 => ?_) (fun c36 => ?_)
  · refine aw_iconst (pc := 42) (v := 0) C dX3_look_42 (by decide) ?_
    refine aw_istore_n (pc := 43) (L' := [(2, .int 0), (0, rf E a0), (1, rf E a1)]) C dX3_look_43 rfl (by decide) rfl ?_
    refine aw_sub (L' := [(0, rf E a0), (2, .int 0)]) [1, 0] rfl ?_
    refine aw_loop (pc := 44) (σ := Int32 × Mem) (fun s => [(0, rf E a0), (2, .int s.1)]) (fun s => s.2) _ (fun k17 ih18 s => ?_) _ _
    obtain ⟨v15, h16⟩ := s
    show Aw K E _ _ _ _ _ 44 [(0, rf E a0), (2, .int v15)] [] h16 _
    refine aw_iload_n (pc := 44) C dX3_look_44 rfl 1 rfl ?_
    refine aw_bipush (pc := 45) (v := 8) C dX3_look_45 (by decide) ?_
    refine aw_icmp_ge (pc := 47) C 104 dX3_look_47 (by decide) (fun c35 => ?_) (fun c35 => ?_)
    · exact aw_return (pc := 104) C hr hz0 rfl dX3_look_104
    refine aw_aload_n (pc := 50) C dX3_look_50 rfl 0 rfl ?_
    refine aw_iload_n (pc := 51) C dX3_look_51 rfl 1 rfl ?_
    refine aw_jn (σ := Int32) 60 (fun s => [(0, rf E a0), (2, .int v15)]) (fun s => [.int s, rf E a0]) (fun s => h16) (fun s => ?_) (fun k20 jk21 => ?_)
    · generalize s = v19
      show Aw K E _ _ _ _ _ 60 [(0, rf E a0), (2, .int v15)] [.int v19, rf E a0] h16 _
      refine aw_callVI (pc := 60) (R := rmX3_look) (c := 3) (As := [.int v19]) (rest := []) (st := [.int v19, rf E a0]) (c' := 0) (s' := 0) C hE rfl (by decide) cal_X3_greatestFrom ml_X3_39 rfl ⟨(Nat.le_of_ble_eq_true rfl), (Nat.le_of_ble_eq_true rfl)⟩ ⟨(Nat.le_of_ble_eq_true rfl), (Nat.le_of_ble_eq_true rfl)⟩ dX3_look_60 (okX3_greatestFrom E (kL K) a0 v19 h16) rfl (Nat.le_of_ble_eq_true rfl) rfl rfl (fun v23 h22 eh22 => ?_)
      refine aw_istore_n (pc := 63) (L' := [(3, .int v23), (0, rf E a0), (2, .int v15)]) C dX3_look_63 rfl (by decide) rfl ?_
      refine aw_iload_n (pc := 64) C dX3_look_64 rfl 0 rfl ?_
      refine aw_if_ge (pc := 65) C 69 dX3_look_65 (by decide) (fun c33 => ?_) (fun c33 => ?_)
      · refine aw_aload_n (pc := 69) C dX3_look_69 rfl 1 rfl ?_
        refine aw_iload_n (pc := 70) C dX3_look_70 rfl 0 rfl ?_
        refine aw_callVV (pc := 71) (R := rmX3_look) (c := 3) (As := [.int v23]) (rest := []) (st := [.int v23, rf E a0]) (c' := 0) (s' := 0) C hE rfl (by decide) cal_X3_keep ml_X3_42 rfl ⟨(Nat.le_of_ble_eq_true rfl), (Nat.le_of_ble_eq_true rfl)⟩ ⟨(Nat.le_of_ble_eq_true rfl), (Nat.le_of_ble_eq_true rfl)⟩ dX3_look_71 (okX3_keep E (kL K) a0 v23 h22) rfl (Nat.le_of_ble_eq_true rfl) rfl rfl (fun _u h24 eh24 => ?_)
        refine aw_aload_n (pc := 74) C dX3_look_74 rfl 1 rfl ?_
        refine aw_iload_n (pc := 75) C dX3_look_75 rfl 0 rfl ?_
        refine aw_callVJ (pc := 76) (R := rmX3_look) (c := 3) (As := [.int v23]) (rest := []) (st := [.int v23, rf E a0]) (c' := 0) (s' := 0) C hE rfl (by decide) cal_X3_at ml_X3_46 rfl ⟨(Nat.le_of_ble_eq_true rfl), (Nat.le_of_ble_eq_true rfl)⟩ ⟨(Nat.le_of_ble_eq_true rfl), (Nat.le_of_ble_eq_true rfl)⟩ dX3_look_76 (okX3_at E (kL K) a0 v23 h24) rfl (Nat.le_of_ble_eq_true rfl) rfl rfl (fun v26 h25 eh25 => ?_)
        refine aw_lconst (pc := 79) (v := 0) C dX3_look_79 (by decide) ?_
        refine aw_lcmp (pc := 80) C dX3_look_80 ?_
        refine aw_if_ne (pc := 81) C 85 dX3_look_81 (by decide) (fun c32 => ?_) (fun c32 => ?_)
        · exact aw_return (pc := 84) C hr hz0 rfl dX3_look_84
        refine aw_aload_n (pc := 85) C dX3_look_85 rfl 1 rfl ?_
        refine aw_iload_n (pc := 86) C dX3_look_86 rfl 0 rfl ?_
        refine aw_callVV (pc := 87) (R := rmX3_look) (c := 3) (As := [.int v23]) (rest := []) (st := [.int v23, rf E a0]) (c' := 0) (s' := 0) C hE rfl (by decide) cal_X3_goBehind ml_X3_50 rfl ⟨(Nat.le_of_ble_eq_true rfl), (Nat.le_of_ble_eq_true rfl)⟩ ⟨(Nat.le_of_ble_eq_true rfl), (Nat.le_of_ble_eq_true rfl)⟩ dX3_look_87 (okX3_goBehind E (kL K) a0 v23 h25) rfl (Nat.le_of_ble_eq_true rfl) rfl rfl (fun _u h27 eh27 => ?_)
        refine aw_aload_n (pc := 90) C dX3_look_90 rfl 1 rfl ?_
        refine aw_callVI (pc := 91) (R := rmX3_look) (c := 3) (As := []) (rest := []) (st := [rf E a0]) (c' := 0) (s' := 0) C hE rfl (by decide) cal_X3_isRowBeyond ml_X3_53 rfl ⟨(Nat.le_of_ble_eq_true rfl), (Nat.le_of_ble_eq_true rfl)⟩ ⟨(Nat.le_of_ble_eq_true rfl), (Nat.le_of_ble_eq_true rfl)⟩ dX3_look_91 (okX3_isRowBeyond E (kL K) a0 h27) rfl (Nat.le_of_ble_eq_true rfl) rfl rfl (fun v29 h28 eh28 => ?_)
        refine aw_if_eq (pc := 94) C 98 dX3_look_94 (by decide) (fun c31 => ?_) (fun c31 => ?_)
        · refine aw_iincN (pc := 98) (L1 := [(3, .int v23), (0, rf E a0)]) (k := 1) C dX3_look_98 2 rfl (by decide) (by decide) rfl (fun v30 ev30 => ?_)
          refine aw_goto (pc := 101) C 44 dX3_look_101 (by decide) ?_
          exact aw_sub (L' := [(0, rf E a0), (2, .int v30)]) [2, 0] rfl (ih18 (v30, h28))
        exact aw_return (pc := 97) C hr hz0 rfl dX3_look_97
      exact aw_return (pc := 68) C hr hz0 rfl dX3_look_68
    refine aw_if_ne (pc := 52) C 59 dX3_look_52 (by decide) (fun c34 => ?_) (fun c34 => ?_)
    · refine aw_iconst (pc := 55) (v := 0) C dX3_look_55 (by decide) ?_
      refine aw_goto (pc := 56) C 60 dX3_look_56 (by decide) ?_
      exact aw_sub (L' := [(0, rf E a0), (2, .int v15)]) [0, 1] rfl (jk21 0)
    refine aw_iconst (pc := 59) (v := 1) C dX3_look_59 (by decide) ?_
    exact aw_sub (L' := [(0, rf E a0), (2, .int v15)]) [0, 1] rfl (jk21 1)
  refine aw_aload_n (pc := 24) C dX3_look_24 rfl 0 rfl ?_
  refine aw_getR (pc := 25) C fl_X3_18 dX3_look_25 (fun v10 ev10 => ?_)
  refine aw_iload_n (pc := 28) C dX3_look_28 rfl 2 rfl ?_
  refine aw_aload_n (pc := 29) C dX3_look_29 rfl 1 rfl ?_
  refine aw_iload_n (pc := 30) C dX3_look_30 rfl 2 rfl ?_
  refine aw_callVI (pc := 31) (R := rmX3_look) (c := 2) (As := [.int v4]) (rest := [.int v4, rf E v10]) (st := [.int v4, rf E a1, .int v4, rf E v10]) (c' := 0) (s' := 0) C hE rfl (by decide) cal_X2_get ml_X3_35 rfl ⟨(Nat.le_of_ble_eq_true rfl), (Nat.le_of_ble_eq_true rfl)⟩ ⟨(Nat.le_of_ble_eq_true rfl), (Nat.le_of_ble_eq_true rfl)⟩ dX3_look_31 (okX2_get E (kL K) a1 v4 h5) rfl (Nat.le_of_ble_eq_true rfl) rfl rfl (fun v12 h11 eh11 => ?_)
  refine aw_i2l (pc := 34) C dX3_look_34 ?_
  refine aw_lastore (pc := 35) C dX3_look_35 (fun h13 eh13 => ?_)
  refine aw_iincN (pc := 36) (L1 := [(0, rf E a0), (1, rf E a1)]) (k := 1) C dX3_look_36 2 rfl (by decide) (by decide) rfl (fun v14 ev14 => ?_)
  refine aw_goto (pc := 39) C 15 dX3_look_39 (by decide) ?_
  exact aw_sub (L' := [(0, rf E a0), (1, rf E a1), (2, .int v14)]) [1, 2, 0] rfl (ih7 (v14, h13))
def rmX9_partsNow : Room := { frames := 3, cells := 0, slots := 0, locals := 73 }
set_option maxHeartbeats 4000000 in
set_option maxRecDepth 100000 in
theorem okX9_partsNow (E : Ev) (l : Launch) (a0 : Nat) (h0 : Mem) : AMet E l yX9_partsNow cX9_partsNow 1 (some (.object "TwoLetterForms$Parts")) rmX9_partsNow [rf E a0] h0 (rvR E) (fX9_partsNow a0 h0) := by
  refine am_intro (plainFor_of_name (by decide +kernel)) (Nat.le_of_ble_eq_true rfl) (fun K hKl C hr hnm hz0 => ?_)
  replace C : CxOK K E RX9 cX9_partsNow 1 := C
  have hE : E.1 + 1 ≤ (kS K).heap.size := by omega
  unfold fX9_partsNow
  show Aw K E _ _ _ _ _ 0 [(0, rf E a0)] [] h0 _
  refine aw_aload_n (pc := 0) C dX9_partsNow_0 rfl 0 rfl ?_
  refine aw_getR (pc := 1) C fl_X9_49 dX9_partsNow_1 (fun v1 ev1 => ?_)
  refine aw_aload_n (pc := 4) C dX9_partsNow_4 rfl 0 rfl ?_
  refine aw_getR (pc := 5) C fl_X9_12 dX9_partsNow_5 (fun v2 ev2 => ?_)
  refine aw_getR (pc := 8) C fl_X9_71 dX9_partsNow_8 (fun v3 ev3 => ?_)
  refine aw_getR (pc := 11) C fl_X9_74 dX9_partsNow_11 (fun v4 ev4 => ?_)
  refine aw_callVV (pc := 14) (R := rmX9_partsNow) (c := 3) (As := [rf E v4]) (rest := []) (st := [rf E v4, rf E v1]) (c' := 0) (s' := 0) C hE rfl (by decide) cal_X3_look ml_X9_318 rfl ⟨(Nat.le_of_ble_eq_true rfl), (Nat.le_of_ble_eq_true rfl)⟩ ⟨(Nat.le_of_ble_eq_true rfl), (Nat.le_of_ble_eq_true rfl)⟩ dX9_partsNow_14 (okX3_look E (kL K) v1 v4 h0) rfl (Nat.le_of_ble_eq_true rfl) rfl rfl (fun _u h5 eh5 => ?_)
  refine aw_aload_n (pc := 17) C dX9_partsNow_17 rfl 0 rfl ?_
  refine aw_getR (pc := 18) C fl_X9_49 dX9_partsNow_18 (fun v6 ev6 => ?_)
  exact aw_areturn (pc := 21) C hr (gR_ne ev6) hz0 rfl dX9_partsNow_21
def rmX3_above : Room := { frames := 0, cells := 0, slots := 0, locals := 0 }
set_option maxHeartbeats 4000000 in
set_option maxRecDepth 100000 in
theorem okX3_above (E : Ev) (l : Launch) (a0 : Nat) (a1 : Int32) (h0 : Mem) : AMet E l yX3_above cX3_above 2 (some (.long)) rmX3_above [rf E a0, .int a1] h0 rvJ (fX3_above a0 a1 h0) := by
  refine am_intro (plainFor_of_name (by decide +kernel)) (Nat.le_of_ble_eq_true rfl) (fun K hKl C hr hnm hz0 => ?_)
  replace C : CxOK K E RX3 cX3_above 2 := C
  have hE : E.1 + 1 ≤ (kS K).heap.size := by omega
  unfold fX3_above
  show Aw K E _ _ _ _ _ 0 [(0, rf E a0), (1, .int a1)] [] h0 _
  refine aw_iload_n (pc := 0) C dX3_above_0 rfl 1 rfl ?_
  refine aw_if_lt (pc := 1) C 27 dX3_above_1 (by decide) (fun c6 => ?_) (fun c6 => ?_)
  · refine aw_lconst (pc := 27) (v := 0) C dX3_above_27 (by decide) ?_
    exact aw_lreturn (pc := 28) C hr hz0 rfl dX3_above_28
  refine aw_iload_n (pc := 4) C dX3_above_4 rfl 1 rfl ?_
  refine aw_aload_n (pc := 5) C dX3_above_5 rfl 0 rfl ?_
  refine aw_getI (pc := 6) C fl_X3_9 dX3_above_6 (fun v1 ev1 => ?_)
  refine aw_icmp_ge (pc := 9) C 27 dX3_above_9 (by decide) (fun c5 => ?_) (fun c5 => ?_)
  · refine aw_lconst (pc := 27) (v := 0) C dX3_above_27 (by decide) ?_
    exact aw_lreturn (pc := 28) C hr hz0 rfl dX3_above_28
  refine aw_iload_n (pc := 12) C dX3_above_12 rfl 1 rfl ?_
  refine aw_bipush (pc := 13) (v := 8) C dX3_above_13 (by decide) ?_
  refine aw_icmp_ge (pc := 15) C 27 dX3_above_15 (by decide) (fun c4 => ?_) (fun c4 => ?_)
  · refine aw_lconst (pc := 27) (v := 0) C dX3_above_27 (by decide) ?_
    exact aw_lreturn (pc := 28) C hr hz0 rfl dX3_above_28
  refine aw_aload_n (pc := 18) C dX3_above_18 rfl 0 rfl ?_
  refine aw_getR (pc := 19) C fl_X3_26 dX3_above_19 (fun v2 ev2 => ?_)
  refine aw_iload_n (pc := 22) C dX3_above_22 rfl 1 rfl ?_
  refine aw_laload (pc := 23) C dX3_above_23 (fun v3 ev3 => ?_)
  refine aw_goto (pc := 24) C 28 dX3_above_24 (by decide) ?_
  exact aw_lreturn (pc := 28) C hr hz0 rfl dX3_above_28
def rmX3_below : Room := { frames := 0, cells := 0, slots := 0, locals := 0 }
set_option maxHeartbeats 4000000 in
set_option maxRecDepth 100000 in
theorem okX3_below (E : Ev) (l : Launch) (a0 : Nat) (a1 : Int32) (h0 : Mem) : AMet E l yX3_below cX3_below 2 (some (.long)) rmX3_below [rf E a0, .int a1] h0 rvJ (fX3_below a0 a1 h0) := by
  refine am_intro (plainFor_of_name (by decide +kernel)) (Nat.le_of_ble_eq_true rfl) (fun K hKl C hr hnm hz0 => ?_)
  replace C : CxOK K E RX3 cX3_below 2 := C
  have hE : E.1 + 1 ≤ (kS K).heap.size := by omega
  unfold fX3_below
  show Aw K E _ _ _ _ _ 0 [(0, rf E a0), (1, .int a1)] [] h0 _
  refine aw_iload_n (pc := 0) C dX3_below_0 rfl 1 rfl ?_
  refine aw_if_lt (pc := 1) C 27 dX3_below_1 (by decide) (fun c6 => ?_) (fun c6 => ?_)
  · refine aw_lconst (pc := 27) (v := 0) C dX3_below_27 (by decide) ?_
    exact aw_lreturn (pc := 28) C hr hz0 rfl dX3_below_28
  refine aw_iload_n (pc := 4) C dX3_below_4 rfl 1 rfl ?_
  refine aw_aload_n (pc := 5) C dX3_below_5 rfl 0 rfl ?_
  refine aw_getI (pc := 6) C fl_X3_9 dX3_below_6 (fun v1 ev1 => ?_)
  refine aw_icmp_ge (pc := 9) C 27 dX3_below_9 (by decide) (fun c5 => ?_) (fun c5 => ?_)
  · refine aw_lconst (pc := 27) (v := 0) C dX3_below_27 (by decide) ?_
    exact aw_lreturn (pc := 28) C hr hz0 rfl dX3_below_28
  refine aw_iload_n (pc := 12) C dX3_below_12 rfl 1 rfl ?_
  refine aw_bipush (pc := 13) (v := 8) C dX3_below_13 (by decide) ?_
  refine aw_icmp_ge (pc := 15) C 27 dX3_below_15 (by decide) (fun c4 => ?_) (fun c4 => ?_)
  · refine aw_lconst (pc := 27) (v := 0) C dX3_below_27 (by decide) ?_
    exact aw_lreturn (pc := 28) C hr hz0 rfl dX3_below_28
  refine aw_aload_n (pc := 18) C dX3_below_18 rfl 0 rfl ?_
  refine aw_getR (pc := 19) C fl_X3_29 dX3_below_19 (fun v2 ev2 => ?_)
  refine aw_iload_n (pc := 22) C dX3_below_22 rfl 1 rfl ?_
  refine aw_laload (pc := 23) C dX3_below_23 (fun v3 ev3 => ?_)
  refine aw_goto (pc := 24) C 28 dX3_below_24 (by decide) ?_
  exact aw_lreturn (pc := 28) C hr hz0 rfl dX3_below_28
def rmX9_convergentAnswers : Room := { frames := 4, cells := 0, slots := 0, locals := 93 }
set_option maxHeartbeats 4000000 in
set_option maxRecDepth 100000 in
theorem okX9_convergentAnswers (E : Ev) (l : Launch) (a0 : Nat) (h0 : Mem) : AMet E l yX9_convergentAnswers cX9_convergentAnswers 4 (some (.int)) rmX9_convergentAnswers [rf E a0] h0 rvI (fX9_convergentAnswers a0 h0) := by
  refine am_intro (plainFor_of_name (by decide +kernel)) (Nat.le_of_ble_eq_true rfl) (fun K hKl C hr hnm hz0 => ?_)
  replace C : CxOK K E RX9 cX9_convergentAnswers 4 := C
  have hE : E.1 + 1 ≤ (kS K).heap.size := by omega
  unfold fX9_convergentAnswers
  show Aw K E _ _ _ _ _ 0 [(0, rf E a0)] [] h0 _
  refine aw_aload_n (pc := 0) C dX9_convergentAnswers_0 rfl 0 rfl ?_
  refine aw_callVR (pc := 1) (R := rmX9_convergentAnswers) (c := 9) (As := []) (rest := []) (st := [rf E a0]) (c' := 0) (s' := 0) C hE rfl (by decide) cal_X9_partsNow ml_X9_155 rfl ⟨(Nat.le_of_ble_eq_true rfl), (Nat.le_of_ble_eq_true rfl)⟩ ⟨(Nat.le_of_ble_eq_true rfl), (Nat.le_of_ble_eq_true rfl)⟩ dX9_convergentAnswers_1 (okX9_partsNow E (kL K) a0 h0) rfl (Nat.le_of_ble_eq_true rfl) rfl rfl (fun h1 eh1 => ?_) (fun v2 h1 ev2 nv2 => ?_)
  · refine aw_itt rfl ?_
    exact aw_none
  refine aw_itf nv2 ?_
  refine aw_astore_n (pc := 4) (L' := [(1, rf E v2), (0, rf E a0)]) C dX9_convergentAnswers_4 rfl (by decide) rfl ?_
  refine aw_iconst (pc := 5) (v := 0) C dX9_convergentAnswers_5 (by decide) ?_
  refine aw_istore_n (pc := 6) (L' := [(2, .int 0), (1, rf E v2), (0, rf E a0)]) C dX9_convergentAnswers_6 rfl (by decide) rfl ?_
  refine aw_iconst (pc := 7) (v := 0) C dX9_convergentAnswers_7 (by decide) ?_
  refine aw_istore_n (pc := 8) (L' := [(3, .int 0), (2, .int 0), (1, rf E v2), (0, rf E a0)]) C dX9_convergentAnswers_8 rfl (by decide) rfl ?_
  refine aw_sub (L' := [(0, rf E a0), (1, rf E v2), (2, .int 0), (3, .int 0)]) [3, 2, 1, 0] rfl ?_
  refine aw_loop (pc := 9) (σ := Int32 × Int32 × Mem) (fun s => [(0, rf E a0), (1, rf E v2), (2, .int s.1), (3, .int s.2.1)]) (fun s => s.2.2) _ (fun k6 ih7 s => ?_) _ _
  obtain ⟨v3, v4, h5⟩ := s
  show Aw K E _ _ _ _ _ 9 [(0, rf E a0), (1, rf E v2), (2, .int v3), (3, .int v4)] [] h5 _
  refine aw_iload_n (pc := 9) C dX9_convergentAnswers_9 rfl 3 rfl ?_
  refine aw_aload_n (pc := 10) C dX9_convergentAnswers_10 rfl 1 rfl ?_
  refine aw_getI (pc := 11) C fl_X9_159 dX9_convergentAnswers_11 (fun v8 ev8 => ?_)
  refine aw_icmp_ge (pc := 14) C 49 dX9_convergentAnswers_14 (by decide) (fun c21 => ?_) (fun c21 => ?_)
  · refine aw_iload_n (pc := 49) C dX9_convergentAnswers_49 rfl 2 rfl ?_
    exact aw_ireturn (pc := 50) C hr rfl hz0 rfl dX9_convergentAnswers_50
  refine aw_aload_n (pc := 17) C dX9_convergentAnswers_17 rfl 0 rfl ?_
  refine aw_getR (pc := 18) C fl_X9_12 dX9_convergentAnswers_18 (fun v9 ev9 => ?_)
  refine aw_getR (pc := 21) C fl_X9_71 dX9_convergentAnswers_21 (fun v10 ev10 => ?_)
  refine aw_aload_n (pc := 24) C dX9_convergentAnswers_24 rfl 1 rfl ?_
  refine aw_iload_n (pc := 25) C dX9_convergentAnswers_25 rfl 3 rfl ?_
  refine aw_callVJ (pc := 26) (R := rmX9_convergentAnswers) (c := 3) (As := [.int v4]) (rest := [rf E v10]) (st := [.int v4, rf E v2, rf E v10]) (c' := 0) (s' := 0) C hE rfl (by decide) cal_X3_above ml_X9_206 rfl ⟨(Nat.le_of_ble_eq_true rfl), (Nat.le_of_ble_eq_true rfl)⟩ ⟨(Nat.le_of_ble_eq_true rfl), (Nat.le_of_ble_eq_true rfl)⟩ dX9_convergentAnswers_26 (okX3_above E (kL K) v2 v4 h5) rfl (Nat.le_of_ble_eq_true rfl) rfl rfl (fun v12 h11 eh11 => ?_)
  refine aw_aload_n (pc := 29) C dX9_convergentAnswers_29 rfl 1 rfl ?_
  refine aw_iload_n (pc := 30) C dX9_convergentAnswers_30 rfl 3 rfl ?_
  refine aw_callVJ (pc := 31) (R := rmX9_convergentAnswers) (c := 3) (As := [.int v4]) (rest := [.long v12, rf E v10]) (st := [.int v4, rf E v2, .long v12, rf E v10]) (c' := 0) (s' := 0) C hE rfl (by decide) cal_X3_below ml_X9_210 rfl ⟨(Nat.le_of_ble_eq_true rfl), (Nat.le_of_ble_eq_true rfl)⟩ ⟨(Nat.le_of_ble_eq_true rfl), (Nat.le_of_ble_eq_true rfl)⟩ dX9_convergentAnswers_31 (okX3_below E (kL K) v2 v4 h11) rfl (Nat.le_of_ble_eq_true rfl) rfl rfl (fun v14 h13 eh13 => ?_)
  refine aw_callVI (pc := 34) (R := rmX9_convergentAnswers) (c := 1) (As := [.long v12, .long v14]) (rest := []) (st := [.long v14, .long v12, rf E v10]) (c' := 0) (s' := 0) C hE rfl (by decide) cal_X1_isAnswer ml_X9_319 rfl ⟨(Nat.le_of_ble_eq_true rfl), (Nat.le_of_ble_eq_true rfl)⟩ ⟨(Nat.le_of_ble_eq_true rfl), (Nat.le_of_ble_eq_true rfl)⟩ dX9_convergentAnswers_34 (okX1_isAnswer E (kL K) v10 v12 v14 h13) rfl (Nat.le_of_ble_eq_true rfl) rfl rfl (fun v16 h15 eh15 => ?_)
  refine aw_if_eq (pc := 37) C 43 dX9_convergentAnswers_37 (by decide) (fun c20 => ?_) (fun c20 => ?_)
  · refine aw_iincN (pc := 43) (L1 := [(0, rf E a0), (1, rf E v2), (2, .int v3)]) (k := 1) C dX9_convergentAnswers_43 3 rfl (by decide) (by decide) rfl (fun v19 ev19 => ?_)
    refine aw_goto (pc := 46) C 9 dX9_convergentAnswers_46 (by decide) ?_
    exact aw_sub (L' := [(0, rf E a0), (1, rf E v2), (2, .int v3), (3, .int v19)]) [1, 2, 3, 0] rfl (ih7 (v3, v19, h15))
  refine aw_iincN (pc := 40) (L1 := [(0, rf E a0), (1, rf E v2), (3, .int v4)]) (k := 1) C dX9_convergentAnswers_40 2 rfl (by decide) (by decide) rfl (fun v17 ev17 => ?_)
  refine aw_iincN (pc := 43) (L1 := [(2, .int v17), (0, rf E a0), (1, rf E v2)]) (k := 1) C dX9_convergentAnswers_43 3 rfl (by decide) (by decide) rfl (fun v18 ev18 => ?_)
  refine aw_goto (pc := 46) C 9 dX9_convergentAnswers_46 (by decide) ?_
  exact aw_sub (L' := [(0, rf E a0), (1, rf E v2), (2, .int v17), (3, .int v18)]) [2, 3, 1, 0] rfl (ih7 (v17, v18, h15))
def rmX9_told : Room := { frames := 6, cells := 0, slots := 0, locals := 165 }
set_option maxHeartbeats 4000000 in
set_option maxRecDepth 100000 in
theorem okX9_told (E : Ev) (l : Launch) (a0 : Nat) (a1 : Int32) (h0 : Mem) : AMet E l yX9_told cX9_told 2 (some (.int)) rmX9_told [rf E a0, .int a1] h0 rvI (fX9_told a0 a1 h0) := by
  refine am_intro (plainFor_of_name (by decide +kernel)) (Nat.le_of_ble_eq_true rfl) (fun K hKl C hr hnm hz0 => ?_)
  replace C : CxOK K E RX9 cX9_told 2 := C
  have hE : E.1 + 1 ≤ (kS K).heap.size := by omega
  unfold fX9_told
  show Aw K E _ _ _ _ _ 0 [(0, rf E a0), (1, .int a1)] [] h0 _
  refine aw_iload_n (pc := 0) C dX9_told_0 rfl 1 rfl ?_
  refine aw_case 0 (fun c1 => ?_) (fun c1 => ?_)
  · refine aw_tableIn (pc := 1) C 0 48 c1 dX9_told_1 (by decide) (by decide) rfl (by decide) ?_
    refine aw_aload_n (pc := 48) C dX9_told_48 rfl 0 rfl ?_
    refine aw_getR (pc := 49) C fl_X9_12 dX9_told_49 (fun v2 ev2 => ?_)
    refine aw_getR (pc := 52) C fl_X9_71 dX9_told_52 (fun v3 ev3 => ?_)
    refine aw_getR (pc := 55) C fl_X9_74 dX9_told_55 (fun v4 ev4 => ?_)
    refine aw_getI (pc := 58) C fl_X9_78 dX9_told_58 (fun v5 ev5 => ?_)
    exact aw_ireturn (pc := 61) C hr rfl hz0 rfl dX9_told_61
  refine aw_case 1 (fun c6 => ?_) (fun c6 => ?_)
  · refine aw_tableIn (pc := 1) C 1 62 c6 dX9_told_1 (by decide) (by decide) rfl (by decide) ?_
    refine aw_aload_n (pc := 62) C dX9_told_62 rfl 0 rfl ?_
    refine aw_getR (pc := 63) C fl_X9_12 dX9_told_63 (fun v7 ev7 => ?_)
    refine aw_getR (pc := 66) C fl_X9_71 dX9_told_66 (fun v8 ev8 => ?_)
    refine aw_getI (pc := 69) C fl_X9_100 dX9_told_69 (fun v9 ev9 => ?_)
    refine aw_sipush (pc := 72) (v := 10000) C dX9_told_72 (by decide) ?_
    refine aw_iadd (pc := 75) C dX9_told_75 ?_
    exact aw_ireturn (pc := 76) C hr rfl hz0 rfl dX9_told_76
  refine aw_case 2 (fun c10 => ?_) (fun c10 => ?_)
  · refine aw_tableIn (pc := 1) C 2 77 c10 dX9_told_1 (by decide) (by decide) rfl (by decide) ?_
    refine aw_aload_n (pc := 77) C dX9_told_77 rfl 0 rfl ?_
    refine aw_getR (pc := 78) C fl_X9_12 dX9_told_78 (fun v11 ev11 => ?_)
    refine aw_getR (pc := 81) C fl_X9_71 dX9_told_81 (fun v12 ev12 => ?_)
    refine aw_getI (pc := 84) C fl_X9_103 dX9_told_84 (fun v13 ev13 => ?_)
    exact aw_ireturn (pc := 87) C hr rfl hz0 rfl dX9_told_87
  refine aw_case 3 (fun c14 => ?_) (fun c14 => ?_)
  · refine aw_tableIn (pc := 1) C 3 88 c14 dX9_told_1 (by decide) (by decide) rfl (by decide) ?_
    refine aw_aload_n (pc := 88) C dX9_told_88 rfl 0 rfl ?_
    refine aw_callVR (pc := 89) (R := rmX9_told) (c := 9) (As := []) (rest := []) (st := [rf E a0]) (c' := 0) (s' := 0) C hE rfl (by decide) cal_X9_answersNow ml_X9_139 rfl ⟨(Nat.le_of_ble_eq_true rfl), (Nat.le_of_ble_eq_true rfl)⟩ ⟨(Nat.le_of_ble_eq_true rfl), (Nat.le_of_ble_eq_true rfl)⟩ dX9_told_89 (okX9_answersNow E (kL K) a0 h0) rfl (Nat.le_of_ble_eq_true rfl) rfl rfl (fun h15 eh15 => ?_) (fun v16 h15 ev16 nv16 => ?_)
    · refine aw_itt rfl ?_
      exact aw_none
    refine aw_itf nv16 ?_
    refine aw_getI (pc := 92) C fl_X9_143 dX9_told_92 (fun v17 ev17 => ?_)
    exact aw_ireturn (pc := 95) C hr rfl hz0 rfl dX9_told_95
  refine aw_case 4 (fun c18 => ?_) (fun c18 => ?_)
  · refine aw_tableIn (pc := 1) C 4 96 c18 dX9_told_1 (by decide) (by decide) rfl (by decide) ?_
    refine aw_aload_n (pc := 96) C dX9_told_96 rfl 0 rfl ?_
    refine aw_callVR (pc := 97) (R := rmX9_told) (c := 9) (As := []) (rest := []) (st := [rf E a0]) (c' := 0) (s' := 0) C hE rfl (by decide) cal_X9_unitsNow ml_X9_144 rfl ⟨(Nat.le_of_ble_eq_true rfl), (Nat.le_of_ble_eq_true rfl)⟩ ⟨(Nat.le_of_ble_eq_true rfl), (Nat.le_of_ble_eq_true rfl)⟩ dX9_told_97 (okX9_unitsNow E (kL K) a0 h0) rfl (Nat.le_of_ble_eq_true rfl) rfl rfl (fun h19 eh19 => ?_) (fun v20 h19 ev20 nv20 => ?_)
    · refine aw_itt rfl ?_
      exact aw_none
    refine aw_itf nv20 ?_
    refine aw_getI (pc := 100) C fl_X9_148 dX9_told_100 (fun v21 ev21 => ?_)
    exact aw_ireturn (pc := 103) C hr rfl hz0 rfl dX9_told_103
  refine aw_case 5 (fun c22 => ?_) (fun c22 => ?_)
  · refine aw_tableIn (pc := 1) C 5 104 c22 dX9_told_1 (by decide) (by decide) rfl (by decide) ?_
    refine aw_aload_n (pc := 104) C dX9_told_104 rfl 0 rfl ?_
    refine aw_callVR (pc := 105) (R := rmX9_told) (c := 9) (As := []) (rest := []) (st := [rf E a0]) (c' := 0) (s' := 0) C hE rfl (by decide) cal_X9_answersInFamilies ml_X9_149 rfl ⟨(Nat.le_of_ble_eq_true rfl), (Nat.le_of_ble_eq_true rfl)⟩ ⟨(Nat.le_of_ble_eq_true rfl), (Nat.le_of_ble_eq_true rfl)⟩ dX9_told_105 (okX9_answersInFamilies E (kL K) a0 h0) rfl (Nat.le_of_ble_eq_true rfl) rfl rfl (fun h23 eh23 => ?_) (fun v24 h23 ev24 nv24 => ?_)
    · refine aw_itt rfl ?_
      exact aw_none
    refine aw_itf nv24 ?_
    refine aw_getI (pc := 108) C fl_X9_152 dX9_told_108 (fun v25 ev25 => ?_)
    exact aw_ireturn (pc := 111) C hr rfl hz0 rfl dX9_told_111
  refine aw_case 6 (fun c26 => ?_) (fun c26 => ?_)
  · refine aw_tableIn (pc := 1) C 6 112 c26 dX9_told_1 (by decide) (by decide) rfl (by decide) ?_
    refine aw_aload_n (pc := 112) C dX9_told_112 rfl 0 rfl ?_
    refine aw_callVR (pc := 113) (R := rmX9_told) (c := 9) (As := []) (rest := []) (st := [rf E a0]) (c' := 0) (s' := 0) C hE rfl (by decide) cal_X9_partsNow ml_X9_155 rfl ⟨(Nat.le_of_ble_eq_true rfl), (Nat.le_of_ble_eq_true rfl)⟩ ⟨(Nat.le_of_ble_eq_true rfl), (Nat.le_of_ble_eq_true rfl)⟩ dX9_told_113 (okX9_partsNow E (kL K) a0 h0) rfl (Nat.le_of_ble_eq_true rfl) rfl rfl (fun h27 eh27 => ?_) (fun v28 h27 ev28 nv28 => ?_)
    · refine aw_itt rfl ?_
      exact aw_none
    refine aw_itf nv28 ?_
    refine aw_getI (pc := 116) C fl_X9_159 dX9_told_116 (fun v29 ev29 => ?_)
    exact aw_ireturn (pc := 119) C hr rfl hz0 rfl dX9_told_119
  refine aw_case 7 (fun c30 => ?_) (fun c30 => ?_)
  · refine aw_tableIn (pc := 1) C 7 120 c30 dX9_told_1 (by decide) (by decide) rfl (by decide) ?_
    refine aw_aload_n (pc := 120) C dX9_told_120 rfl 0 rfl ?_
    refine aw_callVI (pc := 121) (R := rmX9_told) (c := 9) (As := []) (rest := []) (st := [rf E a0]) (c' := 0) (s' := 0) C hE rfl (by decide) cal_X9_convergentAnswers ml_X9_160 rfl ⟨(Nat.le_of_ble_eq_true rfl), (Nat.le_of_ble_eq_true rfl)⟩ ⟨(Nat.le_of_ble_eq_true rfl), (Nat.le_of_ble_eq_true rfl)⟩ dX9_told_121 (okX9_convergentAnswers E (kL K) a0 h0) rfl (Nat.le_of_ble_eq_true rfl) rfl rfl (fun v32 h31 eh31 => ?_)
    exact aw_ireturn (pc := 124) C hr rfl hz0 rfl dX9_told_124
  refine aw_tableOut (pc := 1) C 125 dX9_told_1 (by have qc1 := lv_neT c1 (show (0 : Int32).toInt = 0 by decide); have qc6 := lv_neT c6 (show (1 : Int32).toInt = 1 by decide); have qc10 := lv_neT c10 (show (2 : Int32).toInt = 2 by decide); have qc14 := lv_neT c14 (show (3 : Int32).toInt = 3 by decide); have qc18 := lv_neT c18 (show (4 : Int32).toInt = 4 by decide); have qc22 := lv_neT c22 (show (5 : Int32).toInt = 5 by decide); have qc26 := lv_neT c26 (show (6 : Int32).toInt = 6 by decide); have qc30 := lv_neT c30 (show (7 : Int32).toInt = 7 by decide); omega) (by decide) ?_
  refine aw_iconst (pc := 125) (v := (-1)) C dX9_told_125 (by decide) ?_
  exact aw_ireturn (pc := 126) C hr rfl hz0 rfl dX9_told_126
