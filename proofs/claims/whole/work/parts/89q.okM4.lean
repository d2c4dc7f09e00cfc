def rmX10_prime : Room := { frames := 4, cells := 0, slots := 0, locals := 97 }
set_option maxHeartbeats 4000000 in
set_option maxRecDepth 100000 in
theorem okX10_prime (E : Ev) (l : Launch) (a0 : Nat) (a1 : Int32) (a2 : Int32) (h0 : Mem) : AMet E l yX10_prime cX10_prime 4 (some (.int)) rmX10_prime [rf E a0, .int a1, .int a2] h0 rvI (fX10_prime a0 a1 a2 h0) := by
  refine am_intro (plainFor_of_name (by decide +kernel)) (Nat.le_of_ble_eq_true rfl) (fun K hKl C hr hnm hz0 => ?_)
  replace C : CxOK K E RX10 cX10_prime 4 := C
  have hE : E.1 + 1 ≤ (kS K).heap.size := by omega
  unfold fX10_prime
  show Aw K E _ _ _ _ _ 0 [(0, rf E a0), (1, .int a1), (2, .int a2)] [] h0 _
  refine aw_iload_n (pc := 0) C dX10_prime_0 rfl 1 rfl ?_
  refine aw_i2l (pc := 1) C dX10_prime_1 ?_
  refine aw_lconst (pc := 2) (v := 0) C dX10_prime_2 (by decide) ?_
  refine aw_ldc2 (pc := 3) (v := 5) C kc_X10_180 dX10_prime_3 ?_
  refine aw_callSI (pc := 6) (R := rmX10_prime) (As := [.long a1.toInt64, .long 0, .long 5]) (rest := []) (st := [.long 5, .long 0, .long a1.toInt64]) (c' := 0) (s' := 0) C hE cal_X10_in ml_X10_96 rfl ⟨(Nat.le_of_ble_eq_true rfl), (Nat.le_of_ble_eq_true rfl)⟩ ⟨(Nat.le_of_ble_eq_true rfl), (Nat.le_of_ble_eq_true rfl)⟩ dX10_prime_6 (okX10_in E (kL K) a1.toInt64 0 5 h0) rfl (Nat.le_of_ble_eq_true rfl) rfl rfl (fun v2 h1 eh1 => ?_)
  refine aw_if_eq (pc := 9) C 24 dX10_prime_9 (by decide) (fun c15 => ?_) (fun c15 => ?_)
  · refine aw_iconst (pc := 24) (v := (-1)) C dX10_prime_24 (by decide) ?_
    exact aw_ireturn (pc := 25) C hr rfl hz0 rfl dX10_prime_25
  refine aw_iload_n (pc := 12) C dX10_prime_12 rfl 2 rfl ?_
  refine aw_i2l (pc := 13) C dX10_prime_13 ?_
  refine aw_lconst (pc := 14) (v := 0) C dX10_prime_14 (by decide) ?_
  refine aw_ldc2 (pc := 15) (v := 2) C kc_X10_100 dX10_prime_15 ?_
  refine aw_callSI (pc := 18) (R := rmX10_prime) (As := [.long a2.toInt64, .long 0, .long 2]) (rest := []) (st := [.long 2, .long 0, .long a2.toInt64]) (c' := 0) (s' := 0) C hE cal_X10_in ml_X10_96 rfl ⟨(Nat.le_of_ble_eq_true rfl), (Nat.le_of_ble_eq_true rfl)⟩ ⟨(Nat.le_of_ble_eq_true rfl), (Nat.le_of_ble_eq_true rfl)⟩ dX10_prime_18 (okX10_in E (kL K) a2.toInt64 0 2 h1) rfl (Nat.le_of_ble_eq_true rfl) rfl rfl (fun v4 h3 eh3 => ?_)
  refine aw_if_ne (pc := 21) C 26 dX10_prime_21 (by decide) (fun c14 => ?_) (fun c14 => ?_)
  · refine aw_iconst (pc := 24) (v := (-1)) C dX10_prime_24 (by decide) ?_
    exact aw_ireturn (pc := 25) C hr rfl hz0 rfl dX10_prime_25
  refine aw_aload_n (pc := 26) C dX10_prime_26 rfl 0 rfl ?_
  refine aw_getR (pc := 27) C fl_X10_56 dX10_prime_27 (fun v5 ev5 => ?_)
  refine aw_iload_n (pc := 30) C dX10_prime_30 rfl 1 rfl ?_
  refine aw_iaload (pc := 31) C dX10_prime_31 (fun v6 ev6 => ?_)
  refine aw_istore_n (pc := 32) (L' := [(3, .int v6), (0, rf E a0), (1, .int a1), (2, .int a2)]) C dX10_prime_32 rfl (by decide) rfl ?_
  refine aw_iload_n (pc := 33) C dX10_prime_33 rfl 3 rfl ?_
  refine aw_if_ne (pc := 34) C 41 dX10_prime_34 (by decide) (fun c13 => ?_) (fun c13 => ?_)
  · refine aw_iload_n (pc := 37) C dX10_prime_37 rfl 0 rfl ?_
    refine aw_goto (pc := 38) C 67 dX10_prime_38 (by decide) ?_
    exact aw_ireturn (pc := 67) C hr rfl hz0 rfl dX10_prime_67
  refine aw_iload_n (pc := 41) C dX10_prime_41 rfl 3 rfl ?_
  refine aw_iconst (pc := 42) (v := 1) C dX10_prime_42 (by decide) ?_
  refine aw_icmp_ne (pc := 43) C 54 dX10_prime_43 (by decide) (fun c12 => ?_) (fun c12 => ?_)
  · refine aw_aload_n (pc := 46) C dX10_prime_46 rfl 1 rfl ?_
    refine aw_iload_n (pc := 47) C dX10_prime_47 rfl 0 rfl ?_
    refine aw_callVI (pc := 48) (R := rmX10_prime) (c := 10) (As := [.int v6]) (rest := []) (st := [.int v6, rf E a0]) (c' := 0) (s' := 0) C hE rfl (by decide) cal_X10_remainders ml_X10_174 rfl ⟨(Nat.le_of_ble_eq_true rfl), (Nat.le_of_ble_eq_true rfl)⟩ ⟨(Nat.le_of_ble_eq_true rfl), (Nat.le_of_ble_eq_true rfl)⟩ dX10_prime_48 (okX10_remainders E (kL K) a0 v6 h3) rfl (Nat.le_of_ble_eq_true rfl) rfl rfl (fun v8 h7 eh7 => ?_)
    refine aw_goto (pc := 51) C 67 dX10_prime_51 (by decide) ?_
    exact aw_ireturn (pc := 67) C hr rfl hz0 rfl dX10_prime_67
  refine aw_aload_n (pc := 54) C dX10_prime_54 rfl 1 rfl ?_
  refine aw_iload_n (pc := 55) C dX10_prime_55 rfl 0 rfl ?_
  refine aw_callVI (pc := 56) (R := rmX10_prime) (c := 10) (As := [.int v6]) (rest := []) (st := [.int v6, rf E a0]) (c' := 0) (s' := 0) C hE rfl (by decide) cal_X10_bars ml_X10_177 rfl ⟨(Nat.le_of_ble_eq_true rfl), (Nat.le_of_ble_eq_true rfl)⟩ ⟨(Nat.le_of_ble_eq_true rfl), (Nat.le_of_ble_eq_true rfl)⟩ dX10_prime_56 (okX10_bars E (kL K) a0 v6 h3) rfl (Nat.le_of_ble_eq_true rfl) rfl rfl (fun v10 h9 eh9 => ?_)
  refine aw_if_eq (pc := 59) C 66 dX10_prime_59 (by decide) (fun c11 => ?_) (fun c11 => ?_)
  · refine aw_iconst (pc := 66) (v := 0) C dX10_prime_66 (by decide) ?_
    exact aw_ireturn (pc := 67) C hr rfl hz0 rfl dX10_prime_67
  refine aw_iconst (pc := 62) (v := 1) C dX10_prime_62 (by decide) ?_
  refine aw_goto (pc := 63) C 67 dX10_prime_63 (by decide) ?_
  exact aw_ireturn (pc := 67) C hr rfl hz0 rfl dX10_prime_67
def rmX10_firstBar : Room := { frames := 4, cells := 0, slots := 0, locals := 97 }
set_option maxHeartbeats 4000000 in
set_option maxRecDepth 100000 in
theorem okX10_firstBar (E : Ev) (l : Launch) (a0 : Nat) (h0 : Mem) : AMet E l yX10_firstBar cX10_firstBar 2 (some (.int)) rmX10_firstBar [rf E a0] h0 rvI (fX10_firstBar a0 h0) := by
  refine am_intro (plainFor_of_name (by decide +kernel)) (Nat.le_of_ble_eq_true rfl) (fun K hKl C hr hnm hz0 => ?_)
  replace C : CxOK K E RX10 cX10_firstBar 2 := C
  have hE : E.1 + 1 ≤ (kS K).heap.size := by omega
  unfold fX10_firstBar
  show Aw K E _ _ _ _ _ 0 [(0, rf E a0)] [] h0 _
  refine aw_iconst (pc := 0) (v := 0) C dX10_firstBar_0 (by decide) ?_
  refine aw_istore_n (pc := 1) (L' := [(1, .int 0), (0, rf E a0)]) C dX10_firstBar_1 rfl (by decide) rfl ?_
  refine aw_sub (L' := [(0, rf E a0), (1, .int 0)]) [1, 0] rfl ?_
  refine aw_loop (pc := 2) (σ := Int32 × Mem) (fun s => [(0, rf E a0), (1, .int s.1)]) (fun s => s.2) _ (fun k3 ih4 s => ?_) _ _
  obtain ⟨v1, h2⟩ := s
  show Aw K E _ _ _ _ _ 2 [(0, rf E a0), (1, .int v1)] [] h2 _
  refine aw_iload_n (pc := 2) C dX10_firstBar_2 rfl 1 rfl ?_
  refine aw_bipush (pc := 3) (v := 6) C dX10_firstBar_3 (by decide) ?_
  refine aw_icmp_ge (pc := 5) C 34 dX10_firstBar_5 (by decide) (fun c13 => ?_) (fun c13 => ?_)
  · refine aw_bipush (pc := 34) (v := (-5)) C dX10_firstBar_34 (by decide) ?_
    exact aw_ireturn (pc := 36) C hr rfl hz0 rfl dX10_firstBar_36
  refine aw_aload_n (pc := 8) C dX10_firstBar_8 rfl 0 rfl ?_
  refine aw_aload_n (pc := 9) C dX10_firstBar_9 rfl 0 rfl ?_
  refine aw_getR (pc := 10) C fl_X10_56 dX10_firstBar_10 (fun v5 ev5 => ?_)
  refine aw_iload_n (pc := 13) C dX10_firstBar_13 rfl 1 rfl ?_
  refine aw_iaload (pc := 14) C dX10_firstBar_14 (fun v6 ev6 => ?_)
  refine aw_callVI (pc := 15) (R := rmX10_firstBar) (c := 10) (As := [.int v6]) (rest := []) (st := [.int v6, rf E a0]) (c' := 0) (s' := 0) C hE rfl (by decide) cal_X10_bars ml_X10_177 rfl ⟨(Nat.le_of_ble_eq_true rfl), (Nat.le_of_ble_eq_true rfl)⟩ ⟨(Nat.le_of_ble_eq_true rfl), (Nat.le_of_ble_eq_true rfl)⟩ dX10_firstBar_15 (okX10_bars E (kL K) a0 v6 h2) rfl (Nat.le_of_ble_eq_true rfl) rfl rfl (fun v8 h7 eh7 => ?_)
  refine aw_if_eq (pc := 18) C 28 dX10_firstBar_18 (by decide) (fun c12 => ?_) (fun c12 => ?_)
  · refine aw_iincN (pc := 28) (L1 := [(0, rf E a0)]) (k := 1) C dX10_firstBar_28 1 rfl (by decide) (by decide) rfl (fun v11 ev11 => ?_)
    refine aw_goto (pc := 31) C 2 dX10_firstBar_31 (by decide) ?_
    exact aw_sub (L' := [(0, rf E a0), (1, .int v11)]) [1, 0] rfl (ih4 (v11, h7))
  refine aw_aload_n (pc := 21) C dX10_firstBar_21 rfl 0 rfl ?_
  refine aw_getR (pc := 22) C fl_X10_56 dX10_firstBar_22 (fun v9 ev9 => ?_)
  refine aw_iload_n (pc := 25) C dX10_firstBar_25 rfl 1 rfl ?_
  refine aw_iaload (pc := 26) C dX10_firstBar_26 (fun v10 ev10 => ?_)
  exact aw_ireturn (pc := 27) C hr rfl hz0 rfl dX10_firstBar_27
def rmX10_reason : Room := { frames := 5, cells := 0, slots := 0, locals := 118 }
set_option maxHeartbeats 4000000 in
set_option maxRecDepth 100000 in
theorem okX10_reason (E : Ev) (l : Launch) (a0 : Nat) (a1 : Int32) (h0 : Mem) : AMet E l yX10_reason cX10_reason 3 (some (.int)) rmX10_reason [rf E a0, .int a1] h0 rvI (fX10_reason a0 a1 h0) := by
  refine am_intro (plainFor_of_name (by decide +kernel)) (Nat.le_of_ble_eq_true rfl) (fun K hKl C hr hnm hz0 => ?_)
  replace C : CxOK K E RX10 cX10_reason 3 := C
  have hE : E.1 + 1 ≤ (kS K).heap.size := by omega
  unfold fX10_reason
  show Aw K E _ _ _ _ _ 0 [(0, rf E a0), (1, .int a1)] [] h0 _
  refine aw_iload_n (pc := 0) C dX10_reason_0 rfl 1 rfl ?_
  refine aw_if_ge (pc := 1) C 6 dX10_reason_1 (by decide) (fun c16 => ?_) (fun c16 => ?_)
  · refine aw_aload_n (pc := 6) C dX10_reason_6 rfl 0 rfl ?_
    refine aw_callVV (pc := 7) (R := rmX10_reason) (c := 10) (As := []) (rest := []) (st := [rf E a0]) (c' := 0) (s' := 0) C hE rfl (by decide) cal_X10_tellsAnswers ml_X10_157 rfl ⟨(Nat.le_of_ble_eq_true rfl), (Nat.le_of_ble_eq_true rfl)⟩ ⟨(Nat.le_of_ble_eq_true rfl), (Nat.le_of_ble_eq_true rfl)⟩ dX10_reason_7 (okX10_tellsAnswers E (kL K) a0 h0) rfl (Nat.le_of_ble_eq_true rfl) rfl rfl (fun _u h1 eh1 => ?_)
    refine aw_aload_n (pc := 10) C dX10_reason_10 rfl 0 rfl ?_
    refine aw_callVI (pc := 11) (R := rmX10_reason) (c := 10) (As := []) (rest := []) (st := [rf E a0]) (c' := 0) (s' := 0) C hE rfl (by decide) cal_X10_firstBar ml_X10_182 rfl ⟨(Nat.le_of_ble_eq_true rfl), (Nat.le_of_ble_eq_true rfl)⟩ ⟨(Nat.le_of_ble_eq_true rfl), (Nat.le_of_ble_eq_true rfl)⟩ dX10_reason_11 (okX10_firstBar E (kL K) a0 h1) rfl (Nat.le_of_ble_eq_true rfl) rfl rfl (fun v3 h2 eh2 => ?_)
    refine aw_istore_n (pc := 14) (L' := [(2, .int v3), (0, rf E a0), (1, .int a1)]) C dX10_reason_14 rfl (by decide) rfl ?_
    refine aw_aload_n (pc := 15) C dX10_reason_15 rfl 1 rfl ?_
    refine aw_getI (pc := 16) C fl_X10_143 dX10_reason_16 (fun v4 ev4 => ?_)
    refine aw_if_gt (pc := 19) C 37 dX10_reason_19 (by decide) (fun c15 => ?_) (fun c15 => ?_)
    · refine aw_bipush (pc := 37) (v := (-5)) C dX10_reason_37 (by decide) ?_
      exact aw_ireturn (pc := 39) C hr rfl hz0 rfl dX10_reason_39
    refine aw_iload_n (pc := 22) C dX10_reason_22 rfl 2 rfl ?_
    refine aw_iconst (pc := 23) (v := 2) C dX10_reason_23 (by decide) ?_
    refine aw_icmp_gt (pc := 24) C 37 dX10_reason_24 (by decide) (fun c14 => ?_) (fun c14 => ?_)
    · refine aw_bipush (pc := 37) (v := (-5)) C dX10_reason_37 (by decide) ?_
      exact aw_ireturn (pc := 39) C hr rfl hz0 rfl dX10_reason_39
    refine aw_iload_n (pc := 27) C dX10_reason_27 rfl 2 rfl ?_
    refine aw_jn (σ := Unit) 40 (fun s => [(0, rf E a0), (1, .int a1), (2, .int v3)]) (fun s => []) (fun s => h2) (fun s => ?_) (fun k5 jk6 => ?_)
    · show Aw K E _ _ _ _ _ 40 [(0, rf E a0), (1, .int a1), (2, .int v3)] [] h2 _
      refine aw_iload_n (pc := 40) C dX10_reason_40 rfl 1 rfl ?_
      refine aw_if_ne (pc := 41) C 51 dX10_reason_41 (by decide) (fun c11 => ?_) (fun c11 => ?_)
      · refine aw_aload_n (pc := 44) C dX10_reason_44 rfl 0 rfl ?_
        refine aw_getI (pc := 45) C fl_X10_22 dX10_reason_45 (fun v7 ev7 => ?_)
        refine aw_goto (pc := 48) C 65 dX10_reason_48 (by decide) ?_
        exact aw_ireturn (pc := 65) C hr rfl hz0 rfl dX10_reason_65
      refine aw_iload_n (pc := 51) C dX10_reason_51 rfl 1 rfl ?_
      refine aw_iconst (pc := 52) (v := 1) C dX10_reason_52 (by decide) ?_
      refine aw_icmp_ne (pc := 53) C 60 dX10_reason_53 (by decide) (fun c10 => ?_) (fun c10 => ?_)
      · refine aw_iload_n (pc := 56) C dX10_reason_56 rfl 2 rfl ?_
        refine aw_goto (pc := 57) C 65 dX10_reason_57 (by decide) ?_
        exact aw_ireturn (pc := 65) C hr rfl hz0 rfl dX10_reason_65
      refine aw_aload_n (pc := 60) C dX10_reason_60 rfl 0 rfl ?_
      refine aw_iload_n (pc := 61) C dX10_reason_61 rfl 2 rfl ?_
      refine aw_callVI (pc := 62) (R := rmX10_reason) (c := 10) (As := [.int v3]) (rest := []) (st := [.int v3, rf E a0]) (c' := 0) (s' := 0) C hE rfl (by decide) cal_X10_remainders ml_X10_174 rfl ⟨(Nat.le_of_ble_eq_true rfl), (Nat.le_of_ble_eq_true rfl)⟩ ⟨(Nat.le_of_ble_eq_true rfl), (Nat.le_of_ble_eq_true rfl)⟩ dX10_reason_62 (okX10_remainders E (kL K) a0 v3 h2) rfl (Nat.le_of_ble_eq_true rfl) rfl rfl (fun v9 h8 eh8 => ?_)
      exact aw_ireturn (pc := 65) C hr rfl hz0 rfl dX10_reason_65
    refine aw_if_le (pc := 28) C 40 dX10_reason_28 (by decide) (fun c13 => ?_) (fun c13 => ?_)
    · exact aw_sub (L' := [(0, rf E a0), (1, .int a1), (2, .int v3)]) [1, 2, 0] rfl (jk6 ())
    refine aw_iload_n (pc := 31) C dX10_reason_31 rfl 0 rfl ?_
    refine aw_bipush (pc := 32) (v := (-5)) C dX10_reason_32 (by decide) ?_
    refine aw_icmp_ne (pc := 34) C 40 dX10_reason_34 (by decide) (fun c12 => ?_) (fun c12 => ?_)
    · refine aw_bipush (pc := 37) (v := (-5)) C dX10_reason_37 (by decide) ?_
      exact aw_ireturn (pc := 39) C hr rfl hz0 rfl dX10_reason_39
    exact aw_sub (L' := [(0, rf E a0), (1, .int a1), (2, .int v3)]) [1, 2, 0] rfl (jk6 ())
  refine aw_iconst (pc := 4) (v := (-1)) C dX10_reason_4 (by decide) ?_
  exact aw_ireturn (pc := 5) C hr rfl hz0 rfl dX10_reason_5
def rmX10_unit : Room := { frames := 3, cells := 0, slots := 0, locals := 82 }
set_option maxHeartbeats 4000000 in
set_option maxRecDepth 100000 in
theorem okX10_unit (E : Ev) (l : Launch) (a0 : Nat) (a1 : Int32) (a2 : Int32) (h0 : Mem) : AMet E l yX10_unit cX10_unit 3 (some (.int)) rmX10_unit [rf E a0, .int a1, .int a2] h0 rvI (fX10_unit a0 a1 a2 h0) := by
  refine am_intro (plainFor_of_name (by decide +kernel)) (Nat.le_of_ble_eq_true rfl) (fun K hKl C hr hnm hz0 => ?_)
  replace C : CxOK K E RX10 cX10_unit 3 := C
  have hE : E.1 + 1 ≤ (kS K).heap.size := by omega
  unfold fX10_unit
  show Aw K E _ _ _ _ _ 0 [(0, rf E a0), (1, .int a1), (2, .int a2)] [] h0 _
  refine aw_iload_n (pc := 0) C dX10_unit_0 rfl 1 rfl ?_
  refine aw_if_lt (pc := 1) C 16 dX10_unit_1 (by decide) (fun c9 => ?_) (fun c9 => ?_)
  · refine aw_iconst (pc := 16) (v := (-1)) C dX10_unit_16 (by decide) ?_
    exact aw_ireturn (pc := 17) C hr rfl hz0 rfl dX10_unit_17
  refine aw_iload_n (pc := 4) C dX10_unit_4 rfl 2 rfl ?_
  refine aw_i2l (pc := 5) C dX10_unit_5 ?_
  refine aw_lconst (pc := 6) (v := 0) C dX10_unit_6 (by decide) ?_
  refine aw_ldc2 (pc := 7) (v := 3) C kc_X10_229 dX10_unit_7 ?_
  refine aw_callSI (pc := 10) (R := rmX10_unit) (As := [.long a2.toInt64, .long 0, .long 3]) (rest := []) (st := [.long 3, .long 0, .long a2.toInt64]) (c' := 0) (s' := 0) C hE cal_X10_in ml_X10_96 rfl ⟨(Nat.le_of_ble_eq_true rfl), (Nat.le_of_ble_eq_true rfl)⟩ ⟨(Nat.le_of_ble_eq_true rfl), (Nat.le_of_ble_eq_true rfl)⟩ dX10_unit_10 (okX10_in E (kL K) a2.toInt64 0 3 h0) rfl (Nat.le_of_ble_eq_true rfl) rfl rfl (fun v2 h1 eh1 => ?_)
  refine aw_if_ne (pc := 13) C 18 dX10_unit_13 (by decide) (fun c8 => ?_) (fun c8 => ?_)
  · refine aw_iconst (pc := 16) (v := (-1)) C dX10_unit_16 (by decide) ?_
    exact aw_ireturn (pc := 17) C hr rfl hz0 rfl dX10_unit_17
  refine aw_aload_n (pc := 18) C dX10_unit_18 rfl 0 rfl ?_
  refine aw_callVV (pc := 19) (R := rmX10_unit) (c := 10) (As := []) (rest := []) (st := [rf E a0]) (c' := 0) (s' := 0) C hE rfl (by decide) cal_X10_tellsUnits ml_X10_160 rfl ⟨(Nat.le_of_ble_eq_true rfl), (Nat.le_of_ble_eq_true rfl)⟩ ⟨(Nat.le_of_ble_eq_true rfl), (Nat.le_of_ble_eq_true rfl)⟩ dX10_unit_19 (okX10_tellsUnits E (kL K) a0 h1) rfl (Nat.le_of_ble_eq_true rfl) rfl rfl (fun _u h3 eh3 => ?_)
  refine aw_iload_n (pc := 22) C dX10_unit_22 rfl 1 rfl ?_
  refine aw_aload_n (pc := 23) C dX10_unit_23 rfl 0 rfl ?_
  refine aw_getI (pc := 24) C fl_X10_150 dX10_unit_24 (fun v4 ev4 => ?_)
  refine aw_icmp_ge (pc := 27) C 46 dX10_unit_27 (by decide) (fun c7 => ?_) (fun c7 => ?_)
  · refine aw_bipush (pc := 46) (v := (-5)) C dX10_unit_46 (by decide) ?_
    exact aw_ireturn (pc := 48) C hr rfl hz0 rfl dX10_unit_48
  refine aw_aload_n (pc := 30) C dX10_unit_30 rfl 0 rfl ?_
  refine aw_getR (pc := 31) C fl_X10_44 dX10_unit_31 (fun v5 ev5 => ?_)
  refine aw_iconst (pc := 34) (v := 4) C dX10_unit_34 (by decide) ?_
  refine aw_iload_n (pc := 35) C dX10_unit_35 rfl 1 rfl ?_
  refine aw_imul (pc := 36) C dX10_unit_36 ?_
  refine aw_iload_n (pc := 37) C dX10_unit_37 rfl 2 rfl ?_
  refine aw_iadd (pc := 38) C dX10_unit_38 ?_
  refine aw_iaload (pc := 39) C dX10_unit_39 (fun v6 ev6 => ?_)
  refine aw_bipush (pc := 40) (v := 10) C dX10_unit_40 (by decide) ?_
  refine aw_iadd (pc := 42) C dX10_unit_42 ?_
  refine aw_goto (pc := 43) C 48 dX10_unit_43 (by decide) ?_
  exact aw_ireturn (pc := 48) C hr rfl hz0 rfl dX10_unit_48
def rmX10_family : Room := { frames := 4, cells := 0, slots := 0, locals := 106 }
set_option maxHeartbeats 4000000 in
set_option maxRecDepth 100000 in
theorem okX10_family (E : Ev) (l : Launch) (a0 : Nat) (a1 : Int32) (h0 : Mem) : AMet E l yX10_family cX10_family 4 (some (.int)) rmX10_family [rf E a0, .int a1] h0 rvI (fX10_family a0 a1 h0) := by
  refine am_intro (plainFor_of_name (by decide +kernel)) (Nat.le_of_ble_eq_true rfl) (fun K hKl C hr hnm hz0 => ?_)
  replace C : CxOK K E RX10 cX10_family 4 := C
  have hE : E.1 + 1 ≤ (kS K).heap.size := by omega
  unfold fX10_family
  show Aw K E _ _ _ _ _ 0 [(0, rf E a0), (1, .int a1)] [] h0 _
  refine aw_iload_n (pc := 0) C dX10_family_0 rfl 1 rfl ?_
  refine aw_if_ge (pc := 1) C 6 dX10_family_1 (by decide) (fun c17 => ?_) (fun c17 => ?_)
  · refine aw_aload_n (pc := 6) C dX10_family_6 rfl 0 rfl ?_
    refine aw_callVV (pc := 7) (R := rmX10_family) (c := 10) (As := []) (rest := []) (st := [rf E a0]) (c' := 0) (s' := 0) C hE rfl (by decide) cal_X10_tellsFamilies ml_X10_219 rfl ⟨(Nat.le_of_ble_eq_true rfl), (Nat.le_of_ble_eq_true rfl)⟩ ⟨(Nat.le_of_ble_eq_true rfl), (Nat.le_of_ble_eq_true rfl)⟩ dX10_family_7 (okX10_tellsFamilies E (kL K) a0 h0) rfl (Nat.le_of_ble_eq_true rfl) rfl rfl (fun _u h1 eh1 => ?_)
    refine aw_iload_n (pc := 10) C dX10_family_10 rfl 1 rfl ?_
    refine aw_aload_n (pc := 11) C dX10_family_11 rfl 0 rfl ?_
    refine aw_getI (pc := 12) C fl_X10_171 dX10_family_12 (fun v2 ev2 => ?_)
    refine aw_icmp_lt (pc := 15) C 21 dX10_family_15 (by decide) (fun c16 => ?_) (fun c16 => ?_)
    · refine aw_iconst (pc := 21) (v := 0) C dX10_family_21 (by decide) ?_
      refine aw_istore_n (pc := 22) (L' := [(2, .int 0), (0, rf E a0), (1, .int a1)]) C dX10_family_22 rfl (by decide) rfl ?_
      refine aw_iconst (pc := 23) (v := 0) C dX10_family_23 (by decide) ?_
      refine aw_istore_n (pc := 24) (L' := [(3, .int 0), (2, .int 0), (0, rf E a0), (1, .int a1)]) C dX10_family_24 rfl (by decide) rfl ?_
      refine aw_sub (L' := [(0, rf E a0), (1, .int a1), (2, .int 0), (3, .int 0)]) [2, 3, 1, 0] rfl ?_
      refine aw_loop (pc := 25) (σ := Int32 × Int32) (fun s => [(0, rf E a0), (1, .int a1), (2, .int s.1), (3, .int s.2)]) (fun s => h1) _ (fun k5 ih6 s => ?_) _ _
      obtain ⟨v3, v4⟩ := s
      show Aw K E _ _ _ _ _ 25 [(0, rf E a0), (1, .int a1), (2, .int v3), (3, .int v4)] [] h1 _
      refine aw_iload_n (pc := 25) C dX10_family_25 rfl 3 rfl ?_
      refine aw_aload_n (pc := 26) C dX10_family_26 rfl 0 rfl ?_
      refine aw_getI (pc := 27) C fl_X10_143 dX10_family_27 (fun v7 ev7 => ?_)
      refine aw_icmp_ge (pc := 30) C 57 dX10_family_30 (by decide) (fun c15 => ?_) (fun c15 => ?_)
      · refine aw_iload_n (pc := 57) C dX10_family_57 rfl 2 rfl ?_
        exact aw_ireturn (pc := 58) C hr rfl hz0 rfl dX10_family_58
      refine aw_iload_n (pc := 33) C dX10_family_33 rfl 2 rfl ?_
      refine aw_aload_n (pc := 34) C dX10_family_34 rfl 0 rfl ?_
      refine aw_getR (pc := 35) C fl_X10_53 dX10_family_35 (fun v8 ev8 => ?_)
      refine aw_iload_n (pc := 38) C dX10_family_38 rfl 3 rfl ?_
      refine aw_iaload (pc := 39) C dX10_family_39 (fun v9 ev9 => ?_)
      refine aw_iload_n (pc := 40) C dX10_family_40 rfl 1 rfl ?_
      refine aw_icmp_ne (pc := 41) C 48 dX10_family_41 (by decide) (fun c14 => ?_) (fun c14 => ?_)
      · refine aw_iconst (pc := 44) (v := 1) C dX10_family_44 (by decide) ?_
        refine aw_goto (pc := 45) C 49 dX10_family_45 (by decide) ?_
        refine aw_iadd (pc := 49) C dX10_family_49 ?_
        refine aw_nmI (pc := 50) (fun v10 ev10 => ?_)
        refine aw_istore_n (pc := 50) (L' := [(2, .int v10), (0, rf E a0), (1, .int a1), (3, .int v4)]) C dX10_family_50 rfl (by decide) rfl ?_
        refine aw_iincN (pc := 51) (L1 := [(2, .int v10), (0, rf E a0), (1, .int a1)]) (k := 1) C dX10_family_51 3 rfl (by decide) (by decide) rfl (fun v11 ev11 => ?_)
        refine aw_goto (pc := 54) C 25 dX10_family_54 (by decide) ?_
        exact aw_sub (L' := [(0, rf E a0), (1, .int a1), (2, .int v10), (3, .int v11)]) [2, 3, 1, 0] rfl (ih6 (v10, v11))
      refine aw_iconst (pc := 48) (v := 0) C dX10_family_48 (by decide) ?_
      refine aw_iadd (pc := 49) C dX10_family_49 ?_
      refine aw_nmI (pc := 50) (fun v12 ev12 => ?_)
      refine aw_istore_n (pc := 50) (L' := [(2, .int v12), (0, rf E a0), (1, .int a1), (3, .int v4)]) C dX10_family_50 rfl (by decide) rfl ?_
      refine aw_iincN (pc := 51) (L1 := [(2, .int v12), (0, rf E a0), (1, .int a1)]) (k := 1) C dX10_family_51 3 rfl (by decide) (by decide) rfl (fun v13 ev13 => ?_)
      refine aw_goto (pc := 54) C 25 dX10_family_54 (by decide) ?_
      exact aw_sub (L' := [(0, rf E a0), (1, .int a1), (2, .int v12), (3, .int v13)]) [2, 3, 1, 0] rfl (ih6 (v12, v13))
    refine aw_bipush (pc := 18) (v := (-5)) C dX10_family_18 (by decide) ?_
    exact aw_ireturn (pc := 20) C hr rfl hz0 rfl dX10_family_20
  refine aw_iconst (pc := 4) (v := (-1)) C dX10_family_4 (by decide) ?_
  exact aw_ireturn (pc := 5) C hr rfl hz0 rfl dX10_family_5
def rmX10_part : Room := { frames := 3, cells := 0, slots := 0, locals := 73 }
set_option maxHeartbeats 4000000 in
set_option maxRecDepth 100000 in
theorem okX10_part (E : Ev) (l : Launch) (a0 : Nat) (a1 : Int32) (h0 : Mem) : AMet E l yX10_part cX10_part 2 (some (.int)) rmX10_part [rf E a0, .int a1] h0 rvI (fX10_part a0 a1 h0) := by
  refine am_intro (plainFor_of_name (by decide +kernel)) (Nat.le_of_ble_eq_true rfl) (fun K hKl C hr hnm hz0 => ?_)
  replace C : CxOK K E RX10 cX10_part 2 := C
  have hE : E.1 + 1 ≤ (kS K).heap.size := by omega
  unfold fX10_part
  show Aw K E _ _ _ _ _ 0 [(0, rf E a0), (1, .int a1)] [] h0 _
  refine aw_iload_n (pc := 0) C dX10_part_0 rfl 1 rfl ?_
  refine aw_if_ge (pc := 1) C 6 dX10_part_1 (by decide) (fun c6 => ?_) (fun c6 => ?_)
  · refine aw_aload_n (pc := 6) C dX10_part_6 rfl 0 rfl ?_
    refine aw_callVV (pc := 7) (R := rmX10_part) (c := 10) (As := []) (rest := []) (st := [rf E a0]) (c' := 0) (s' := 0) C hE rfl (by decide) cal_X10_tellsParts ml_X10_210 rfl ⟨(Nat.le_of_ble_eq_true rfl), (Nat.le_of_ble_eq_true rfl)⟩ ⟨(Nat.le_of_ble_eq_true rfl), (Nat.le_of_ble_eq_true rfl)⟩ dX10_part_7 (okX10_tellsParts E (kL K) a0 h0) rfl (Nat.le_of_ble_eq_true rfl) rfl rfl (fun _u h1 eh1 => ?_)
    refine aw_iload_n (pc := 10) C dX10_part_10 rfl 1 rfl ?_
    refine aw_aload_n (pc := 11) C dX10_part_11 rfl 0 rfl ?_
    refine aw_getI (pc := 12) C fl_X10_194 dX10_part_12 (fun v2 ev2 => ?_)
    refine aw_icmp_ge (pc := 15) C 27 dX10_part_15 (by decide) (fun c5 => ?_) (fun c5 => ?_)
    · refine aw_bipush (pc := 27) (v := (-5)) C dX10_part_27 (by decide) ?_
      exact aw_ireturn (pc := 29) C hr rfl hz0 rfl dX10_part_29
    refine aw_aload_n (pc := 18) C dX10_part_18 rfl 0 rfl ?_
    refine aw_getR (pc := 19) C fl_X10_69 dX10_part_19 (fun v3 ev3 => ?_)
    refine aw_iload_n (pc := 22) C dX10_part_22 rfl 1 rfl ?_
    refine aw_iaload (pc := 23) C dX10_part_23 (fun v4 ev4 => ?_)
    refine aw_goto (pc := 24) C 29 dX10_part_24 (by decide) ?_
    exact aw_ireturn (pc := 29) C hr rfl hz0 rfl dX10_part_29
  refine aw_iconst (pc := 4) (v := (-1)) C dX10_part_4 (by decide) ?_
  exact aw_ireturn (pc := 5) C hr rfl hz0 rfl dX10_part_5
def rmX10_convergent : Room := { frames := 3, cells := 0, slots := 0, locals := 73 }
set_option maxHeartbeats 4000000 in
set_option maxRecDepth 100000 in
theorem okX10_convergent (E : Ev) (l : Launch) (a0 : Nat) (a1 : Int32) (a2 : Int32) (h0 : Mem) : AMet E l yX10_convergent cX10_convergent 3 (some (.long)) rmX10_convergent [rf E a0, .int a1, .int a2] h0 rvJ (fX10_convergent a0 a1 a2 h0) := by
  refine am_intro (plainFor_of_name (by decide +kernel)) (Nat.le_of_ble_eq_true rfl) (fun K hKl C hr hnm hz0 => ?_)
  replace C : CxOK K E RX10 cX10_convergent 3 := C
  have hE : E.1 + 1 ≤ (kS K).heap.size := by omega
  unfold fX10_convergent
  show Aw K E _ _ _ _ _ 0 [(0, rf E a0), (1, .int a1), (2, .int a2)] [] h0 _
  refine aw_iload_n (pc := 0) C dX10_convergent_0 rfl 1 rfl ?_
  refine aw_if_lt (pc := 1) C 14 dX10_convergent_1 (by decide) (fun c11 => ?_) (fun c11 => ?_)
  · refine aw_ldc2 (pc := 14) (v := (-9223372036854775808)) C kc_X10_213 dX10_convergent_14 ?_
    exact aw_lreturn (pc := 17) C hr hz0 rfl dX10_convergent_17
  refine aw_iload_n (pc := 4) C dX10_convergent_4 rfl 2 rfl ?_
  refine aw_i2l (pc := 5) C dX10_convergent_5 ?_
  refine aw_lconst (pc := 6) (v := 0) C dX10_convergent_6 (by decide) ?_
  refine aw_lconst (pc := 7) (v := 1) C dX10_convergent_7 (by decide) ?_
  refine aw_callSI (pc := 8) (R := rmX10_convergent) (As := [.long a2.toInt64, .long 0, .long 1]) (rest := []) (st := [.long 1, .long 0, .long a2.toInt64]) (c' := 0) (s' := 0) C hE cal_X10_in ml_X10_96 rfl ⟨(Nat.le_of_ble_eq_true rfl), (Nat.le_of_ble_eq_true rfl)⟩ ⟨(Nat.le_of_ble_eq_true rfl), (Nat.le_of_ble_eq_true rfl)⟩ dX10_convergent_8 (okX10_in E (kL K) a2.toInt64 0 1 h0) rfl (Nat.le_of_ble_eq_true rfl) rfl rfl (fun v2 h1 eh1 => ?_)
  refine aw_if_ne (pc := 11) C 18 dX10_convergent_11 (by decide) (fun c10 => ?_) (fun c10 => ?_)
  · refine aw_ldc2 (pc := 14) (v := (-9223372036854775808)) C kc_X10_213 dX10_convergent_14 ?_
    exact aw_lreturn (pc := 17) C hr hz0 rfl dX10_convergent_17
  refine aw_aload_n (pc := 18) C dX10_convergent_18 rfl 0 rfl ?_
  refine aw_callVV (pc := 19) (R := rmX10_convergent) (c := 10) (As := []) (rest := []) (st := [rf E a0]) (c' := 0) (s' := 0) C hE rfl (by decide) cal_X10_tellsParts ml_X10_210 rfl ⟨(Nat.le_of_ble_eq_true rfl), (Nat.le_of_ble_eq_true rfl)⟩ ⟨(Nat.le_of_ble_eq_true rfl), (Nat.le_of_ble_eq_true rfl)⟩ dX10_convergent_19 (okX10_tellsParts E (kL K) a0 h1) rfl (Nat.le_of_ble_eq_true rfl) rfl rfl (fun _u h3 eh3 => ?_)
  refine aw_iload_n (pc := 22) C dX10_convergent_22 rfl 1 rfl ?_
  refine aw_aload_n (pc := 23) C dX10_convergent_23 rfl 0 rfl ?_
  refine aw_getI (pc := 24) C fl_X10_194 dX10_convergent_24 (fun v4 ev4 => ?_)
  refine aw_icmp_lt (pc := 27) C 34 dX10_convergent_27 (by decide) (fun c9 => ?_) (fun c9 => ?_)
  · refine aw_aload_n (pc := 34) C dX10_convergent_34 rfl 0 rfl ?_
    refine aw_iload_n (pc := 35) C dX10_convergent_35 rfl 1 rfl ?_
    refine aw_callVV (pc := 36) (R := rmX10_convergent) (c := 10) (As := [.int a1]) (rest := []) (st := [.int a1, rf E a0]) (c' := 0) (s' := 0) C hE rfl (by decide) cal_X10_tellsConvergent ml_X10_215 rfl ⟨(Nat.le_of_ble_eq_true rfl), (Nat.le_of_ble_eq_true rfl)⟩ ⟨(Nat.le_of_ble_eq_true rfl), (Nat.le_of_ble_eq_true rfl)⟩ dX10_convergent_36 (okX10_tellsConvergent E (kL K) a0 a1 h3) rfl (Nat.le_of_ble_eq_true rfl) rfl rfl (fun _u h5 eh5 => ?_)
    refine aw_iload_n (pc := 39) C dX10_convergent_39 rfl 2 rfl ?_
    refine aw_if_ne (pc := 40) C 50 dX10_convergent_40 (by decide) (fun c8 => ?_) (fun c8 => ?_)
    · refine aw_aload_n (pc := 43) C dX10_convergent_43 rfl 0 rfl ?_
      refine aw_getJ (pc := 44) C fl_X10_203 dX10_convergent_44 (fun v6 ev6 => ?_)
      refine aw_goto (pc := 47) C 54 dX10_convergent_47 (by decide) ?_
      exact aw_lreturn (pc := 54) C hr hz0 rfl dX10_convergent_54
    refine aw_aload_n (pc := 50) C dX10_convergent_50 rfl 0 rfl ?_
    refine aw_getJ (pc := 51) C fl_X10_207 dX10_convergent_51 (fun v7 ev7 => ?_)
    exact aw_lreturn (pc := 54) C hr hz0 rfl dX10_convergent_54
  refine aw_ldc2 (pc := 30) (v := (-9223372036854775808)) C kc_X10_213 dX10_convergent_30 ?_
  exact aw_lreturn (pc := 33) C hr hz0 rfl dX10_convergent_33
def rmX10_see : Room := { frames := 1, cells := 0, slots := 0, locals := 25 }
set_option maxHeartbeats 4000000 in
set_option maxRecDepth 100000 in
theorem okX10_see (E : Ev) (l : Launch) (a0 : Nat) (a1 : Int32) (a2 : Int32) (a3 : Int32) (h0 : Mem) : AMet E l yX10_see cX10_see 4 (some (.int)) rmX10_see [rf E a0, .int a1, .int a2, .int a3] h0 rvI (fX10_see a0 a1 a2 a3 h0) := by
  refine am_intro (plainFor_of_name (by decide +kernel)) (Nat.le_of_ble_eq_true rfl) (fun K hKl C hr hnm hz0 => ?_)
  replace C : CxOK K E RX10 cX10_see 4 := C
  have hE : E.1 + 1 ≤ (kS K).heap.size := by omega
  unfold fX10_see
  show Aw K E _ _ _ _ _ 0 [(0, rf E a0), (1, .int a1), (2, .int a2), (3, .int a3)] [] h0 _
  refine aw_iload_n (pc := 0) C dX10_see_0 rfl 1 rfl ?_
  refine aw_bipush (pc := 1) (v := (-100)) C dX10_see_1 (by decide) ?_
  refine aw_icmp_ne (pc := 3) C 13 dX10_see_3 (by decide) (fun c25 => ?_) (fun c25 => ?_)
  · refine aw_aload_n (pc := 6) C dX10_see_6 rfl 0 rfl ?_
    refine aw_iconst (pc := 7) (v := 0) C dX10_see_7 (by decide) ?_
    refine aw_putI (pc := 8) C fw_X10_276 rfl rfl dX10_see_8 (fun h1 eh1 => ?_)
    refine aw_iconst (pc := 11) (v := 0) C dX10_see_11 (by decide) ?_
    exact aw_ireturn (pc := 12) C hr rfl hz0 rfl dX10_see_12
  refine aw_iload_n (pc := 13) C dX10_see_13 rfl 1 rfl ?_
  refine aw_i2l (pc := 14) C dX10_see_14 ?_
  refine aw_ldc2 (pc := 15) (v := (-9)) C kc_X10_139 dX10_see_15 ?_
  refine aw_ldc2 (pc := 18) (v := 9) C kc_X10_141 dX10_see_18 ?_
  refine aw_callSI (pc := 21) (R := rmX10_see) (As := [.long a1.toInt64, .long (-9), .long 9]) (rest := []) (st := [.long 9, .long (-9), .long a1.toInt64]) (c' := 0) (s' := 0) C hE cal_X10_in ml_X10_96 rfl ⟨(Nat.le_of_ble_eq_true rfl), (Nat.le_of_ble_eq_true rfl)⟩ ⟨(Nat.le_of_ble_eq_true rfl), (Nat.le_of_ble_eq_true rfl)⟩ dX10_see_21 (okX10_in E (kL K) a1.toInt64 (-9) 9 h0) rfl (Nat.le_of_ble_eq_true rfl) rfl rfl (fun v3 h2 eh2 => ?_)
  refine aw_if_eq (pc := 24) C 55 dX10_see_24 (by decide) (fun c24 => ?_) (fun c24 => ?_)
  · refine aw_bipush (pc := 55) (v := (-2)) C dX10_see_55 (by decide) ?_
    exact aw_ireturn (pc := 57) C hr rfl hz0 rfl dX10_see_57
  refine aw_iload_n (pc := 27) C dX10_see_27 rfl 2 rfl ?_
  refine aw_i2l (pc := 28) C dX10_see_28 ?_
  refine aw_ldc2 (pc := 29) (v := (-9)) C kc_X10_139 dX10_see_29 ?_
  refine aw_ldc2 (pc := 32) (v := 9) C kc_X10_141 dX10_see_32 ?_
  refine aw_callSI (pc := 35) (R := rmX10_see) (As := [.long a2.toInt64, .long (-9), .long 9]) (rest := []) (st := [.long 9, .long (-9), .long a2.toInt64]) (c' := 0) (s' := 0) C hE cal_X10_in ml_X10_96 rfl ⟨(Nat.le_of_ble_eq_true rfl), (Nat.le_of_ble_eq_true rfl)⟩ ⟨(Nat.le_of_ble_eq_true rfl), (Nat.le_of_ble_eq_true rfl)⟩ dX10_see_35 (okX10_in E (kL K) a2.toInt64 (-9) 9 h2) rfl (Nat.le_of_ble_eq_true rfl) rfl rfl (fun v5 h4 eh4 => ?_)
  refine aw_if_eq (pc := 38) C 55 dX10_see_38 (by decide) (fun c23 => ?_) (fun c23 => ?_)
  · refine aw_bipush (pc := 55) (v := (-2)) C dX10_see_55 (by decide) ?_
    exact aw_ireturn (pc := 57) C hr rfl hz0 rfl dX10_see_57
  refine aw_iload_n (pc := 41) C dX10_see_41 rfl 3 rfl ?_
  refine aw_i2l (pc := 42) C dX10_see_42 ?_
  refine aw_ldc2 (pc := 43) (v := (-9999)) C kc_X10_112 dX10_see_43 ?_
  refine aw_ldc2 (pc := 46) (v := 9999) C kc_X10_114 dX10_see_46 ?_
  refine aw_callSI (pc := 49) (R := rmX10_see) (As := [.long a3.toInt64, .long (-9999), .long 9999]) (rest := []) (st := [.long 9999, .long (-9999), .long a3.toInt64]) (c' := 0) (s' := 0) C hE cal_X10_in ml_X10_96 rfl ⟨(Nat.le_of_ble_eq_true rfl), (Nat.le_of_ble_eq_true rfl)⟩ ⟨(Nat.le_of_ble_eq_true rfl), (Nat.le_of_ble_eq_true rfl)⟩ dX10_see_49 (okX10_in E (kL K) a3.toInt64 (-9999) 9999 h4) rfl (Nat.le_of_ble_eq_true rfl) rfl rfl (fun v7 h6 eh6 => ?_)
  refine aw_if_ne (pc := 52) C 58 dX10_see_52 (by decide) (fun c22 => ?_) (fun c22 => ?_)
  · refine aw_bipush (pc := 55) (v := (-2)) C dX10_see_55 (by decide) ?_
    exact aw_ireturn (pc := 57) C hr rfl hz0 rfl dX10_see_57
  refine aw_aload_n (pc := 58) C dX10_see_58 rfl 0 rfl ?_
  refine aw_getI (pc := 59) C fl_X10_276 dX10_see_59 (fun v8 ev8 => ?_)
  refine aw_iconst (pc := 62) (v := 4) C dX10_see_62 (by decide) ?_
  refine aw_icmp_ne (pc := 63) C 69 dX10_see_63 (by decide) (fun c21 => ?_) (fun c21 => ?_)
  · refine aw_bipush (pc := 66) (v := (-4)) C dX10_see_66 (by decide) ?_
    exact aw_ireturn (pc := 68) C hr rfl hz0 rfl dX10_see_68
  refine aw_aload_n (pc := 69) C dX10_see_69 rfl 0 rfl ?_
  refine aw_getR (pc := 70) C fl_X10_25 dX10_see_70 (fun v9 ev9 => ?_)
  refine aw_iconst (pc := 73) (v := 3) C dX10_see_73 (by decide) ?_
  refine aw_aload_n (pc := 74) C dX10_see_74 rfl 0 rfl ?_
  refine aw_getI (pc := 75) C fl_X10_276 dX10_see_75 (fun v10 ev10 => ?_)
  refine aw_imul (pc := 78) C dX10_see_78 ?_
  refine aw_iload_n (pc := 79) C dX10_see_79 rfl 1 rfl ?_
  refine aw_iastore (pc := 80) C dX10_see_80 (fun h11 eh11 => ?_)
  refine aw_aload_n (pc := 81) C dX10_see_81 rfl 0 rfl ?_
  refine aw_getR (pc := 82) C fl_X10_25 dX10_see_82 (fun v12 ev12 => ?_)
  refine aw_iconst (pc := 85) (v := 3) C dX10_see_85 (by decide) ?_
  refine aw_aload_n (pc := 86) C dX10_see_86 rfl 0 rfl ?_
  refine aw_getI (pc := 87) C fl_X10_276 dX10_see_87 (fun v13 ev13 => ?_)
  refine aw_imul (pc := 90) C dX10_see_90 ?_
  refine aw_iconst (pc := 91) (v := 1) C dX10_see_91 (by decide) ?_
  refine aw_iadd (pc := 92) C dX10_see_92 ?_
  refine aw_iload_n (pc := 93) C dX10_see_93 rfl 2 rfl ?_
  refine aw_iastore (pc := 94) C dX10_see_94 (fun h14 eh14 => ?_)
  refine aw_aload_n (pc := 95) C dX10_see_95 rfl 0 rfl ?_
  refine aw_getR (pc := 96) C fl_X10_25 dX10_see_96 (fun v15 ev15 => ?_)
  refine aw_iconst (pc := 99) (v := 3) C dX10_see_99 (by decide) ?_
  refine aw_aload_n (pc := 100) C dX10_see_100 rfl 0 rfl ?_
  refine aw_getI (pc := 101) C fl_X10_276 dX10_see_101 (fun v16 ev16 => ?_)
  refine aw_imul (pc := 104) C dX10_see_104 ?_
  refine aw_iconst (pc := 105) (v := 2) C dX10_see_105 (by decide) ?_
  refine aw_iadd (pc := 106) C dX10_see_106 ?_
  refine aw_iload_n (pc := 107) C dX10_see_107 rfl 3 rfl ?_
  refine aw_iastore (pc := 108) C dX10_see_108 (fun h17 eh17 => ?_)
  refine aw_aload_n (pc := 109) C dX10_see_109 rfl 0 rfl ?_
  refine aw_dup (pc := 110) C rfl dX10_see_110 ?_
  refine aw_getI (pc := 111) C fl_X10_276 dX10_see_111 (fun v18 ev18 => ?_)
  refine aw_iconst (pc := 114) (v := 1) C dX10_see_114 (by decide) ?_
  refine aw_iadd (pc := 115) C dX10_see_115 ?_
  refine aw_putI (pc := 116) C fw_X10_276 rfl rfl dX10_see_116 (fun h19 eh19 => ?_)
  refine aw_aload_n (pc := 119) C dX10_see_119 rfl 0 rfl ?_
  refine aw_getI (pc := 120) C fl_X10_276 dX10_see_120 (fun v20 ev20 => ?_)
  exact aw_ireturn (pc := 123) C hr rfl hz0 rfl dX10_see_123
def rmX10_fits : Room := { frames := 2, cells := 0, slots := 0, locals := 52 }
set_option maxHeartbeats 4000000 in
set_option maxRecDepth 100000 in
theorem okX10_fits (E : Ev) (l : Launch) (a0 : Nat) (a1 : Int32) (a2 : Int32) (h0 : Mem) : AMet E l yX10_fits cX10_fits 10 (some (.int)) rmX10_fits [rf E a0, .int a1, .int a2] h0 rvI (fX10_fits a0 a1 a2 h0) := by
  refine am_intro (plainFor_of_name (by decide +kernel)) (Nat.le_of_ble_eq_true rfl) (fun K hKl C hr hnm hz0 => ?_)
  replace C : CxOK K E RX10 cX10_fits 10 := C
  have hE : E.1 + 1 ≤ (kS K).heap.size := by omega
  unfold fX10_fits
  show Aw K E _ _ _ _ _ 0 [(0, rf E a0), (1, .int a1), (2, .int a2)] [] h0 _
  refine aw_aload_n (pc := 0) C dX10_fits_0 rfl 0 rfl ?_
  refine aw_iload_n (pc := 1) C dX10_fits_1 rfl 1 rfl ?_
  refine aw_callVI (pc := 2) (R := rmX10_fits) (c := 10) (As := [.int a1]) (rest := []) (st := [.int a1, rf E a0]) (c' := 0) (s' := 0) C hE rfl (by decide) cal_X10_isNumber ml_X10_104 rfl ⟨(Nat.le_of_ble_eq_true rfl), (Nat.le_of_ble_eq_true rfl)⟩ ⟨(Nat.le_of_ble_eq_true rfl), (Nat.le_of_ble_eq_true rfl)⟩ dX10_fits_2 (okX10_isNumber E (kL K) a0 a1 h0) rfl (Nat.le_of_ble_eq_true rfl) rfl rfl (fun v2 h1 eh1 => ?_)
  refine aw_if_eq (pc := 5) C 18 dX10_fits_5 (by decide) (fun c49 => ?_) (fun c49 => ?_)
  · refine aw_iconst (pc := 18) (v := (-1)) C dX10_fits_18 (by decide) ?_
    exact aw_ireturn (pc := 19) C hr rfl hz0 rfl dX10_fits_19
  refine aw_iload_n (pc := 8) C dX10_fits_8 rfl 2 rfl ?_
  refine aw_i2l (pc := 9) C dX10_fits_9 ?_
  refine aw_lconst (pc := 10) (v := 0) C dX10_fits_10 (by decide) ?_
  refine aw_lconst (pc := 11) (v := 1) C dX10_fits_11 (by decide) ?_
  refine aw_callSI (pc := 12) (R := rmX10_fits) (As := [.long a2.toInt64, .long 0, .long 1]) (rest := []) (st := [.long 1, .long 0, .long a2.toInt64]) (c' := 0) (s' := 0) C hE cal_X10_in ml_X10_96 rfl ⟨(Nat.le_of_ble_eq_true rfl), (Nat.le_of_ble_eq_true rfl)⟩ ⟨(Nat.le_of_ble_eq_true rfl), (Nat.le_of_ble_eq_true rfl)⟩ dX10_fits_12 (okX10_in E (kL K) a2.toInt64 0 1 h1) rfl (Nat.le_of_ble_eq_true rfl) rfl rfl (fun v4 h3 eh3 => ?_)
  refine aw_if_ne (pc := 15) C 20 dX10_fits_15 (by decide) (fun c48 => ?_) (fun c48 => ?_)
  · refine aw_iconst (pc := 18) (v := (-1)) C dX10_fits_18 (by decide) ?_
    exact aw_ireturn (pc := 19) C hr rfl hz0 rfl dX10_fits_19
  refine aw_aload_n (pc := 20) C dX10_fits_20 rfl 0 rfl ?_
  refine aw_getR (pc := 21) C fl_X10_15 dX10_fits_21 (fun v5 ev5 => ?_)
  refine aw_iload_n (pc := 24) C dX10_fits_24 rfl 1 rfl ?_
  refine aw_laload (pc := 25) C dX10_fits_25 (fun v6 ev6 => ?_)
  refine aw_lstore_n (pc := 26) (L' := [(3, .long v6), (0, rf E a0), (1, .int a1), (2, .int a2)]) C dX10_fits_26 rfl (by decide) rfl ?_
  refine aw_iconst (pc := 27) (v := 0) C dX10_fits_27 (by decide) ?_
  refine aw_istore (pc := 28) (L' := [(5, .int 0), (3, .long v6), (0, rf E a0), (1, .int a1), (2, .int a2)]) C dX10_fits_28 (by decide) rfl ?_
  refine aw_iconst (pc := 30) (v := 0) C dX10_fits_30 (by decide) ?_
  refine aw_istore (pc := 31) (L' := [(6, .int 0), (5, .int 0), (3, .long v6), (0, rf E a0), (1, .int a1), (2, .int a2)]) C dX10_fits_31 (by decide) rfl ?_
  refine aw_bipush (pc := 33) (v := 99) C dX10_fits_33 (by decide) ?_
  refine aw_istore (pc := 35) (L' := [(7, .int 99), (6, .int 0), (5, .int 0), (3, .long v6), (0, rf E a0), (1, .int a1), (2, .int a2)]) C dX10_fits_35 (by decide) rfl ?_
  refine aw_sub (L' := [(0, rf E a0), (1, .int a1), (2, .int a2), (3, .long v6), (5, .int 0), (6, .int 0), (7, .int 99)]) [4, 5, 6, 3, 2, 1, 0] rfl ?_
  refine aw_loop (pc := 37) (σ := Int32 × Int32 × Int32 × Mem) (fun s => [(0, rf E a0), (1, .int a1), (2, .int a2), (3, .long v6), (5, .int s.1), (6, .int s.2.1), (7, .int s.2.2.1)]) (fun s => s.2.2.2) _ (fun k11 ih12 s => ?_) _ _
  obtain ⟨v7, v8, v9, h10⟩ := s
  show Aw K E _ _ _ _ _ 37 [(0, rf E a0), (1, .int a1), (2, .int a2), (3, .long v6), (5, .int v7), (6, .int v8), (7, .int v9)] [] h10 _
  refine aw_iload (pc := 37) C dX10_fits_37 6 rfl ?_
  refine aw_bipush (pc := 39) (v := (-99)) C dX10_fits_39 (by decide) ?_
  refine aw_icmp_lt (pc := 41) C 164 dX10_fits_41 (by decide) (fun c47 => ?_) (fun c47 => ?_)
  · refine aw_aload_n (pc := 164) C dX10_fits_164 rfl 0 rfl ?_
    refine aw_getR (pc := 165) C fl_X10_15 dX10_fits_165 (fun v44 ev44 => ?_)
    refine aw_iload_n (pc := 168) C dX10_fits_168 rfl 1 rfl ?_
    refine aw_lload_n (pc := 169) C dX10_fits_169 rfl 3 rfl ?_
    refine aw_lastore (pc := 170) C dX10_fits_170 (fun h45 eh45 => ?_)
    refine aw_iload_n (pc := 171) C dX10_fits_171 rfl 2 rfl ?_
    refine aw_if_ne (pc := 172) C 180 dX10_fits_172 (by decide) (fun c46 => ?_) (fun c46 => ?_)
    · refine aw_iload (pc := 175) C dX10_fits_175 4 rfl ?_
      refine aw_goto (pc := 177) C 182 dX10_fits_177 (by decide) ?_
      exact aw_ireturn (pc := 182) C hr rfl hz0 rfl dX10_fits_182
    refine aw_iload (pc := 180) C dX10_fits_180 5 rfl ?_
    exact aw_ireturn (pc := 182) C hr rfl hz0 rfl dX10_fits_182
  refine aw_aload_n (pc := 44) C dX10_fits_44 rfl 0 rfl ?_
  refine aw_getR (pc := 45) C fl_X10_15 dX10_fits_45 (fun v13 ev13 => ?_)
  refine aw_iload_n (pc := 48) C dX10_fits_48 rfl 1 rfl ?_
  refine aw_iload (pc := 49) C dX10_fits_49 6 rfl ?_
  refine aw_i2l (pc := 51) C dX10_fits_51 ?_
  refine aw_lastore (pc := 52) C dX10_fits_52 (fun h14 eh14 => ?_)
  refine aw_iconst (pc := 53) (v := 1) C dX10_fits_53 (by decide) ?_
  refine aw_istore (pc := 54) (L' := [(8, .int 1), (0, rf E a0), (1, .int a1), (2, .int a2), (3, .long v6), (5, .int v7), (6, .int v8), (7, .int v9)]) C dX10_fits_54 (by decide) rfl ?_
  refine aw_iconst (pc := 56) (v := 0) C dX10_fits_56 (by decide) ?_
  refine aw_istore (pc := 57) (L' := [(9, .int 0), (8, .int 1), (0, rf E a0), (1, .int a1), (2, .int a2), (3, .long v6), (5, .int v7), (6, .int v8), (7, .int v9)]) C dX10_fits_57 (by decide) rfl ?_
  refine aw_sub (L' := [(0, rf E a0), (1, .int a1), (2, .int a2), (3, .long v6), (5, .int v7), (6, .int v8), (7, .int v9), (8, .int 1), (9, .int 0)]) [2, 3, 4, 5, 6, 7, 8, 1, 0] rfl ?_
  refine aw_loop (pc := 59) (σ := Int32 × Int32 × Mem) (fun s => [(0, rf E a0), (1, .int a1), (2, .int a2), (3, .long v6), (5, .int v7), (6, .int v8), (7, .int v9), (8, .int s.1), (9, .int s.2.1)]) (fun s => s.2.2) _ (fun k18 ih19 s => ?_) _ _
  obtain ⟨v15, v16, h17⟩ := s
  show Aw K E _ _ _ _ _ 59 [(0, rf E a0), (1, .int a1), (2, .int a2), (3, .long v6), (5, .int v7), (6, .int v8), (7, .int v9), (8, .int v15), (9, .int v16)] [] h17 _
  refine aw_iload (pc := 59) C dX10_fits_59 8 rfl ?_
  refine aw_aload_n (pc := 61) C dX10_fits_61 rfl 0 rfl ?_
  refine aw_getI (pc := 62) C fl_X10_276 dX10_fits_62 (fun v20 ev20 => ?_)
  refine aw_icmp_ge (pc := 65) C 126 dX10_fits_65 (by decide) (fun c43 => ?_) (fun c43 => ?_)
  · refine aw_iload (pc := 126) C dX10_fits_126 4 rfl ?_
    refine aw_iload (pc := 128) C dX10_fits_128 7 rfl ?_
    refine aw_jn (σ := Int32) 138 (fun s => [(0, rf E a0), (1, .int a1), (2, .int a2), (3, .long v6), (6, .int v8), (7, .int v9), (8, .int v15)]) (fun s => [.int s, .int v7]) (fun s => h17) (fun s => ?_) (fun k35 jk36 => ?_)
    · generalize s = v34
      show Aw K E _ _ _ _ _ 138 [(0, rf E a0), (1, .int a1), (2, .int a2), (3, .long v6), (6, .int v8), (7, .int v9), (8, .int v15)] [.int v34, .int v7] h17 _
      refine aw_iadd (pc := 138) C dX10_fits_138 ?_
      refine aw_nmI (pc := 139) (fun v37 ev37 => ?_)
      refine aw_istore (pc := 139) (L' := [(5, .int v37), (0, rf E a0), (1, .int a1), (2, .int a2), (3, .long v6), (6, .int v8), (7, .int v9), (8, .int v15)]) C dX10_fits_139 (by decide) rfl ?_
      refine aw_iload (pc := 141) C dX10_fits_141 7 rfl ?_
      refine aw_if_eq (pc := 143) C 154 dX10_fits_143 (by decide) (fun c41 => ?_) (fun c41 => ?_)
      · refine aw_iload (pc := 154) C dX10_fits_154 5 rfl ?_
        refine aw_istore (pc := 156) (L' := [(6, .int v8), (5, .int v37), (0, rf E a0), (1, .int a1), (2, .int a2), (3, .long v6), (7, .int v9), (8, .int v15)]) C dX10_fits_156 (by decide) rfl ?_
        refine aw_iincN (pc := 158) (L1 := [(6, .int v8), (5, .int v37), (0, rf E a0), (1, .int a1), (2, .int a2), (3, .long v6), (8, .int v15)]) (k := (-1)) C dX10_fits_158 6 rfl (by decide) (by decide) rfl (fun v40 ev40 => ?_)
        refine aw_goto (pc := 161) C 37 dX10_fits_161 (by decide) ?_
        exact aw_sub (L' := [(0, rf E a0), (1, .int a1), (2, .int a2), (3, .long v6), (5, .int v37), (6, .int v8), (7, .int v40)]) [3, 4, 5, 6, 2, 1, 0] rfl (ih12 (v37, v8, v40, h17))
      refine aw_iload (pc := 146) C dX10_fits_146 6 rfl ?_
      refine aw_bipush (pc := 148) (v := 100) C dX10_fits_148 (by decide) ?_
      refine aw_iadd (pc := 150) C dX10_fits_150 ?_
      refine aw_goto (pc := 151) C 156 dX10_fits_151 (by decide) ?_
      refine aw_nmI (pc := 156) (fun v38 ev38 => ?_)
      refine aw_istore (pc := 156) (L' := [(6, .int v38), (5, .int v37), (0, rf E a0), (1, .int a1), (2, .int a2), (3, .long v6), (7, .int v9), (8, .int v15)]) C dX10_fits_156 (by decide) rfl ?_
      refine aw_iincN (pc := 158) (L1 := [(6, .int v38), (5, .int v37), (0, rf E a0), (1, .int a1), (2, .int a2), (3, .long v6), (8, .int v15)]) (k := (-1)) C dX10_fits_158 6 rfl (by decide) (by decide) rfl (fun v39 ev39 => ?_)
      refine aw_goto (pc := 161) C 37 dX10_fits_161 (by decide) ?_
      exact aw_sub (L' := [(0, rf E a0), (1, .int a1), (2, .int a2), (3, .long v6), (5, .int v37), (6, .int v38), (7, .int v39)]) [3, 4, 5, 6, 2, 1, 0] rfl (ih12 (v37, v38, v39, h17))
    refine aw_if_eq (pc := 130) C 137 dX10_fits_130 (by decide) (fun c42 => ?_) (fun c42 => ?_)
    · refine aw_iconst (pc := 137) (v := 0) C dX10_fits_137 (by decide) ?_
      exact aw_sub (L' := [(0, rf E a0), (1, .int a1), (2, .int a2), (3, .long v6), (6, .int v8), (7, .int v9), (8, .int v15)]) [0, 1, 2, 3, 5, 6, 7] rfl (jk36 0)
    refine aw_iconst (pc := 133) (v := 1) C dX10_fits_133 (by decide) ?_
    refine aw_goto (pc := 134) C 138 dX10_fits_134 (by decide) ?_
    exact aw_sub (L' := [(0, rf E a0), (1, .int a1), (2, .int a2), (3, .long v6), (6, .int v8), (7, .int v9), (8, .int v15)]) [0, 1, 2, 3, 5, 6, 7] rfl (jk36 1)
  refine aw_iload (pc := 68) C dX10_fits_68 7 rfl ?_
  refine aw_aload_n (pc := 70) C dX10_fits_70 rfl 0 rfl ?_
  refine aw_aload_n (pc := 71) C dX10_fits_71 rfl 0 rfl ?_
  refine aw_getR (pc := 72) C fl_X10_25 dX10_fits_72 (fun v21 ev21 => ?_)
  refine aw_iconst (pc := 75) (v := 3) C dX10_fits_75 (by decide) ?_
  refine aw_iload (pc := 76) C dX10_fits_76 8 rfl ?_
  refine aw_imul (pc := 78) C dX10_fits_78 ?_
  refine aw_iaload (pc := 79) C dX10_fits_79 (fun v22 ev22 => ?_)
  refine aw_i2l (pc := 80) C dX10_fits_80 ?_
  refine aw_aload_n (pc := 81) C dX10_fits_81 rfl 0 rfl ?_
  refine aw_getR (pc := 82) C fl_X10_25 dX10_fits_82 (fun v23 ev23 => ?_)
  refine aw_iconst (pc := 85) (v := 3) C dX10_fits_85 (by decide) ?_
  refine aw_iload (pc := 86) C dX10_fits_86 8 rfl ?_
  refine aw_imul (pc := 88) C dX10_fits_88 ?_
  refine aw_iconst (pc := 89) (v := 1) C dX10_fits_89 (by decide) ?_
  refine aw_iadd (pc := 90) C dX10_fits_90 ?_
  refine aw_iaload (pc := 91) C dX10_fits_91 (fun v24 ev24 => ?_)
  refine aw_i2l (pc := 92) C dX10_fits_92 ?_
  refine aw_callVJ (pc := 93) (R := rmX10_fits) (c := 10) (As := [.long v22.toInt64, .long v24.toInt64]) (rest := [.int v15]) (st := [.long v24.toInt64, .long v22.toInt64, rf E a0, .int v15]) (c' := 0) (s' := 0) C hE rfl (by decide) cal_X10_valueAt ml_X10_146 rfl ⟨(Nat.le_of_ble_eq_true rfl), (Nat.le_of_ble_eq_true rfl)⟩ ⟨(Nat.le_of_ble_eq_true rfl), (Nat.le_of_ble_eq_true rfl)⟩ dX10_fits_93 (okX10_valueAt E (kL K) a0 v22.toInt64 v24.toInt64 h17) rfl (Nat.le_of_ble_eq_true rfl) rfl rfl (fun v26 h25 eh25 => ?_)
  refine aw_aload_n (pc := 96) C dX10_fits_96 rfl 0 rfl ?_
  refine aw_getR (pc := 97) C fl_X10_25 dX10_fits_97 (fun v27 ev27 => ?_)
  refine aw_iconst (pc := 100) (v := 3) C dX10_fits_100 (by decide) ?_
  refine aw_iload (pc := 101) C dX10_fits_101 8 rfl ?_
  refine aw_imul (pc := 103) C dX10_fits_103 ?_
  refine aw_iconst (pc := 104) (v := 2) C dX10_fits_104 (by decide) ?_
  refine aw_iadd (pc := 105) C dX10_fits_105 ?_
  refine aw_iaload (pc := 106) C dX10_fits_106 (fun v28 ev28 => ?_)
  refine aw_i2l (pc := 107) C dX10_fits_107 ?_
  refine aw_lcmp (pc := 108) C dX10_fits_108 ?_
  refine aw_if_ne (pc := 109) C 116 dX10_fits_109 (by decide) (fun c33 => ?_) (fun c33 => ?_)
  · refine aw_iconst (pc := 112) (v := 1) C dX10_fits_112 (by decide) ?_
    refine aw_goto (pc := 113) C 117 dX10_fits_113 (by decide) ?_
    refine aw_iand (pc := 117) C dX10_fits_117 ?_
    refine aw_nmI (pc := 118) (fun v29 ev29 => ?_)
    refine aw_istore (pc := 118) (L' := [(8, .int v29), (0, rf E a0), (1, .int a1), (2, .int a2), (3, .long v6), (5, .int v7), (6, .int v8), (7, .int v9), (9, .int v16)]) C dX10_fits_118 (by decide) rfl ?_
    refine aw_iincN (pc := 120) (L1 := [(8, .int v29), (0, rf E a0), (1, .int a1), (2, .int a2), (3, .long v6), (5, .int v7), (6, .int v8), (7, .int v9)]) (k := 1) C dX10_fits_120 8 rfl (by decide) (by decide) rfl (fun v30 ev30 => ?_)
    refine aw_goto (pc := 123) C 59 dX10_fits_123 (by decide) ?_
    exact aw_sub (L' := [(0, rf E a0), (1, .int a1), (2, .int a2), (3, .long v6), (5, .int v7), (6, .int v8), (7, .int v9), (8, .int v29), (9, .int v30)]) [2, 3, 4, 5, 6, 7, 8, 1, 0] rfl (ih19 (v29, v30, h25))
  refine aw_iconst (pc := 116) (v := 0) C dX10_fits_116 (by decide) ?_
  refine aw_iand (pc := 117) C dX10_fits_117 ?_
  refine aw_nmI (pc := 118) (fun v31 ev31 => ?_)
  refine aw_istore (pc := 118) (L' := [(8, .int v31), (0, rf E a0), (1, .int a1), (2, .int a2), (3, .long v6), (5, .int v7), (6, .int v8), (7, .int v9), (9, .int v16)]) C dX10_fits_118 (by decide) rfl ?_
  refine aw_iincN (pc := 120) (L1 := [(8, .int v31), (0, rf E a0), (1, .int a1), (2, .int a2), (3, .long v6), (5, .int v7), (6, .int v8), (7, .int v9)]) (k := 1) C dX10_fits_120 8 rfl (by decide) (by decide) rfl (fun v32 ev32 => ?_)
  refine aw_goto (pc := 123) C 59 dX10_fits_123 (by decide) ?_
  exact aw_sub (L' := [(0, rf E a0), (1, .int a1), (2, .int a2), (3, .long v6), (5, .int v7), (6, .int v8), (7, .int v9), (8, .int v31), (9, .int v32)]) [2, 3, 4, 5, 6, 7, 8, 1, 0] rfl (ih19 (v31, v32, h25))
def rmX10_lowest : Room := { frames := 0, cells := 0, slots := 0, locals := 0 }
set_option maxHeartbeats 4000000 in
set_option maxRecDepth 100000 in
theorem okX10_lowest (E : Ev) (l : Launch) (a0 : Int64) (a2 : Int64) (a4 : Int32) (h0 : Mem) : AMet E l yX10_lowest cX10_lowest 11 (some (.long)) rmX10_lowest [.long a0, .long a2, .int a4] h0 rvJ (fX10_lowest a0 a2 a4 h0) := by
  refine am_intro (plainFor_of_name (by decide +kernel)) (Nat.le_of_ble_eq_true rfl) (fun K hKl C hr hnm hz0 => ?_)
  replace C : CxOK K E RX10 cX10_lowest 11 := C
  have hE : E.1 + 1 ≤ (kS K).heap.size := by omega
  unfold fX10_lowest
  show Aw K E _ _ _ _ _ 0 [(0, .long a0), (2, .long a2), (4, .int a4)] [] h0 _
  refine aw_lload_n (pc := 0) C dX10_lowest_0 rfl 0 rfl ?_
  refine aw_lconst (pc := 1) (v := 0) C dX10_lowest_1 (by decide) ?_
  refine aw_lcmp (pc := 2) C dX10_lowest_2 ?_
  refine aw_jn (σ := Int64) 12 (fun s => [(0, .long a0), (2, .long a2), (4, .int a4)]) (fun s => [.long s]) (fun s => h0) (fun s => ?_) (fun k2 jk3 => ?_)
  · generalize s = v1
    show Aw K E _ _ _ _ _ 12 [(0, .long a0), (2, .long a2), (4, .int a4)] [.long v1] h0 _
    refine aw_lstore (pc := 12) (L' := [(5, .long v1), (0, .long a0), (2, .long a2), (4, .int a4)]) C dX10_lowest_12 (by decide) rfl ?_
    refine aw_lload_n (pc := 14) C dX10_lowest_14 rfl 2 rfl ?_
    refine aw_lstore (pc := 15) (L' := [(7, .long a2), (5, .long v1), (0, .long a0), (2, .long a2), (4, .int a4)]) C dX10_lowest_15 (by decide) rfl ?_
    refine aw_sub (L' := [(0, .long a0), (2, .long a2), (4, .int a4), (5, .long v1), (7, .long a2)]) [2, 3, 4, 1, 0] rfl ?_
    refine aw_loop (pc := 17) (σ := Int64 × Int64) (fun s => [(0, .long a0), (2, .long a2), (4, .int a4), (5, .long s.1), (7, .long s.2)]) (fun s => h0) _ (fun k6 ih7 s => ?_) _ _
    obtain ⟨v4, v5⟩ := s
    show Aw K E _ _ _ _ _ 17 [(0, .long a0), (2, .long a2), (4, .int a4), (5, .long v4), (7, .long v5)] [] h0 _
    refine aw_lload (pc := 17) C dX10_lowest_17 4 rfl ?_
    refine aw_lconst (pc := 19) (v := 0) C dX10_lowest_19 (by decide) ?_
    refine aw_lcmp (pc := 20) C dX10_lowest_20 ?_
    refine aw_if_eq (pc := 21) C 42 dX10_lowest_21 (by decide) (fun c10 => ?_) (fun c10 => ?_)
    · refine aw_iload (pc := 42) C dX10_lowest_42 2 rfl ?_
      refine aw_if_ne (pc := 44) C 51 dX10_lowest_44 (by decide) (fun c9 => ?_) (fun c9 => ?_)
      · refine aw_lload_n (pc := 47) C dX10_lowest_47 rfl 0 rfl ?_
        refine aw_goto (pc := 48) C 52 dX10_lowest_48 (by decide) ?_
        refine aw_lload (pc := 52) C dX10_lowest_52 3 rfl ?_
        refine aw_ldiv (pc := 54) C dX10_lowest_54 (fun z54 => ?_)
        exact aw_lreturn (pc := 55) C hr hz0 rfl dX10_lowest_55
      refine aw_lload_n (pc := 51) C dX10_lowest_51 rfl 1 rfl ?_
      refine aw_lload (pc := 52) C dX10_lowest_52 3 rfl ?_
      refine aw_ldiv (pc := 54) C dX10_lowest_54 (fun z54 => ?_)
      exact aw_lreturn (pc := 55) C hr hz0 rfl dX10_lowest_55
    refine aw_lload (pc := 24) C dX10_lowest_24 3 rfl ?_
    refine aw_lload (pc := 26) C dX10_lowest_26 4 rfl ?_
    refine aw_lrem (pc := 28) C dX10_lowest_28 (fun z28 => ?_)
    refine aw_nmJ (pc := 29) (fun v8 ev8 => ?_)
    refine aw_lstore (pc := 29) (L' := [(9, .long v8), (0, .long a0), (2, .long a2), (4, .int a4), (5, .long v4), (7, .long v5)]) C dX10_lowest_29 (by decide) rfl ?_
    refine aw_lload (pc := 31) C dX10_lowest_31 5 rfl ?_
    refine aw_lstore (pc := 33) (L' := [(5, .long v5), (9, .long v8), (0, .long a0), (2, .long a2), (4, .int a4), (7, .long v5)]) C dX10_lowest_33 (by decide) rfl ?_
    refine aw_lload (pc := 35) C dX10_lowest_35 1 rfl ?_
    refine aw_lstore (pc := 37) (L' := [(7, .long v8), (5, .long v5), (9, .long v8), (0, .long a0), (2, .long a2), (4, .int a4)]) C dX10_lowest_37 (by decide) rfl ?_
    refine aw_goto (pc := 39) C 17 dX10_lowest_39 (by decide) ?_
    exact aw_sub (L' := [(0, .long a0), (2, .long a2), (4, .int a4), (5, .long v5), (7, .long v8)]) [3, 4, 5, 1, 0] rfl (ih7 (v5, v8))
  refine aw_if_ge (pc := 3) C 11 dX10_lowest_3 (by decide) (fun c11 => ?_) (fun c11 => ?_)
  · refine aw_lload_n (pc := 11) C dX10_lowest_11 rfl 0 rfl ?_
    exact aw_sub (L' := [(0, .long a0), (2, .long a2), (4, .int a4)]) [0, 1, 2] rfl (jk3 a0)
  refine aw_lload_n (pc := 6) C dX10_lowest_6 rfl 0 rfl ?_
  refine aw_lneg (pc := 7) C dX10_lowest_7 ?_
  refine aw_goto (pc := 8) C 12 dX10_lowest_8 (by decide) ?_
  exact aw_sub (L' := [(0, .long a0), (2, .long a2), (4, .int a4)]) [0, 1, 2] rfl (jk3 (-a0))
def rmX10_odds : Room := { frames := 2, cells := 0, slots := 0, locals := 52 }
set_option maxHeartbeats 4000000 in
set_option maxRecDepth 100000 in
theorem okX10_odds (E : Ev) (l : Launch) (a0 : Nat) (a1 : Int32) (h0 : Mem) : AMet E l yX10_odds cX10_odds 6 (some (.long)) rmX10_odds [rf E a0, .int a1] h0 rvJ (fX10_odds a0 a1 h0) := by
  refine am_intro (plainFor_of_name (by decide +kernel)) (Nat.le_of_ble_eq_true rfl) (fun K hKl C hr hnm hz0 => ?_)
  replace C : CxOK K E RX10 cX10_odds 6 := C
  have hE : E.1 + 1 ≤ (kS K).heap.size := by omega
  unfold fX10_odds
  show Aw K E _ _ _ _ _ 0 [(0, rf E a0), (1, .int a1)] [] h0 _
  refine aw_iload_n (pc := 0) C dX10_odds_0 rfl 1 rfl ?_
  refine aw_i2l (pc := 1) C dX10_odds_1 ?_
  refine aw_lconst (pc := 2) (v := 0) C dX10_odds_2 (by decide) ?_
  refine aw_lconst (pc := 3) (v := 1) C dX10_odds_3 (by decide) ?_
  refine aw_callSI (pc := 4) (R := rmX10_odds) (As := [.long a1.toInt64, .long 0, .long 1]) (rest := []) (st := [.long 1, .long 0, .long a1.toInt64]) (c' := 0) (s' := 0) C hE cal_X10_in ml_X10_96 rfl ⟨(Nat.le_of_ble_eq_true rfl), (Nat.le_of_ble_eq_true rfl)⟩ ⟨(Nat.le_of_ble_eq_true rfl), (Nat.le_of_ble_eq_true rfl)⟩ dX10_odds_4 (okX10_in E (kL K) a1.toInt64 0 1 h0) rfl (Nat.le_of_ble_eq_true rfl) rfl rfl (fun v2 h1 eh1 => ?_)
  refine aw_if_ne (pc := 7) C 14 dX10_odds_7 (by decide) (fun c34 => ?_) (fun c34 => ?_)
  · refine aw_ldc2 (pc := 10) (v := (-9223372036854775808)) C kc_X10_213 dX10_odds_10 ?_
    exact aw_lreturn (pc := 13) C hr hz0 rfl dX10_odds_13
  refine aw_lconst (pc := 14) (v := 0) C dX10_odds_14 (by decide) ?_
  refine aw_lstore_n (pc := 15) (L' := [(2, .long 0), (0, rf E a0), (1, .int a1)]) C dX10_odds_15 rfl (by decide) rfl ?_
  refine aw_aload_n (pc := 16) C dX10_odds_16 rfl 1 rfl ?_
  refine aw_getI (pc := 17) C fl_X10_22 dX10_odds_17 (fun v3 ev3 => ?_)
  refine aw_ineg (pc := 20) C dX10_odds_20 ?_
  refine aw_nmI (pc := 21) (fun v4 ev4 => ?_)
  refine aw_istore (pc := 21) (L' := [(4, .int v4), (2, .long 0), (0, rf E a0), (1, .int a1)]) C dX10_odds_21 (by decide) rfl ?_
  refine aw_sub (L' := [(0, rf E a0), (1, .int a1), (2, .long 0), (4, .int v4)]) [2, 3, 1, 0] rfl ?_
  refine aw_loop (pc := 23) (σ := Int64 × Int32 × Mem) (fun s => [(0, rf E a0), (1, .int a1), (2, .long s.1), (4, .int s.2.1)]) (fun s => s.2.2) _ (fun k8 ih9 s => ?_) _ _
  obtain ⟨v5, v6, h7⟩ := s
  show Aw K E _ _ _ _ _ 23 [(0, rf E a0), (1, .int a1), (2, .long v5), (4, .int v6)] [] h7 _
  refine aw_iload (pc := 23) C dX10_odds_23 3 rfl ?_
  refine aw_aload_n (pc := 25) C dX10_odds_25 rfl 0 rfl ?_
  refine aw_getI (pc := 26) C fl_X10_22 dX10_odds_26 (fun v10 ev10 => ?_)
  refine aw_icmp_gt (pc := 29) C 87 dX10_odds_29 (by decide) (fun c33 => ?_) (fun c33 => ?_)
  · refine aw_lload_n (pc := 87) C dX10_odds_87 rfl 2 rfl ?_
    refine aw_ldc2 (pc := 88) (v := 2) C kc_X10_100 dX10_odds_88 ?_
    refine aw_aload_n (pc := 91) C dX10_odds_91 rfl 0 rfl ?_
    refine aw_getI (pc := 92) C fl_X10_22 dX10_odds_92 (fun v29 ev29 => ?_)
    refine aw_i2l (pc := 95) C dX10_odds_95 ?_
    refine aw_lmul (pc := 96) C dX10_odds_96 ?_
    refine aw_lconst (pc := 97) (v := 1) C dX10_odds_97 (by decide) ?_
    refine aw_ladd (pc := 98) C dX10_odds_98 ?_
    refine aw_ldc2 (pc := 99) (v := 2) C kc_X10_100 dX10_odds_99 ?_
    refine aw_aload_n (pc := 102) C dX10_odds_102 rfl 0 rfl ?_
    refine aw_getI (pc := 103) C fl_X10_22 dX10_odds_103 (fun v30 ev30 => ?_)
    refine aw_i2l (pc := 106) C dX10_odds_106 ?_
    refine aw_lmul (pc := 107) C dX10_odds_107 ?_
    refine aw_lconst (pc := 108) (v := 1) C dX10_odds_108 (by decide) ?_
    refine aw_ladd (pc := 109) C dX10_odds_109 ?_
    refine aw_lmul (pc := 110) C dX10_odds_110 ?_
    refine aw_iload_n (pc := 111) C dX10_odds_111 rfl 1 rfl ?_
    refine aw_callSJ (pc := 112) (R := rmX10_odds) (As := [.long v5, .long (((2 * v29.toInt64) + 1) * ((2 * v30.toInt64) + 1)), .int a1]) (rest := []) (st := [.int a1, .long (((2 * v29.toInt64) + 1) * ((2 * v30.toInt64) + 1)), .long v5]) (c' := 0) (s' := 0) C hE cal_X10_lowest ml_X10_279 rfl ⟨(Nat.le_of_ble_eq_true rfl), (Nat.le_of_ble_eq_true rfl)⟩ ⟨(Nat.le_of_ble_eq_true rfl), (Nat.le_of_ble_eq_true rfl)⟩ dX10_odds_112 (okX10_lowest E (kL K) v5 (((2 * v29.toInt64) + 1) * ((2 * v30.toInt64) + 1)) a1 h7) rfl (Nat.le_of_ble_eq_true rfl) rfl rfl (fun v32 h31 eh31 => ?_)
    exact aw_lreturn (pc := 115) C hr hz0 rfl dX10_odds_115
  refine aw_aload_n (pc := 32) C dX10_odds_32 rfl 0 rfl ?_
  refine aw_getI (pc := 33) C fl_X10_22 dX10_odds_33 (fun v11 ev11 => ?_)
  refine aw_ineg (pc := 36) C dX10_odds_36 ?_
  refine aw_nmI (pc := 37) (fun v12 ev12 => ?_)
  refine aw_istore (pc := 37) (L' := [(5, .int v12), (0, rf E a0), (1, .int a1), (2, .long v5), (4, .int v6)]) C dX10_odds_37 (by decide) rfl ?_
  refine aw_sub (L' := [(0, rf E a0), (1, .int a1), (2, .long v5), (4, .int v6), (5, .int v12)]) [1, 2, 3, 4, 0] rfl ?_
  refine aw_loop (pc := 39) (σ := Int64 × Int32 × Mem) (fun s => [(0, rf E a0), (1, .int a1), (2, .long s.1), (4, .int v6), (5, .int s.2.1)]) (fun s => s.2.2) _ (fun k16 ih17 s => ?_) _ _
  obtain ⟨v13, v14, h15⟩ := s
  show Aw K E _ _ _ _ _ 39 [(0, rf E a0), (1, .int a1), (2, .long v13), (4, .int v6), (5, .int v14)] [] h15 _
  refine aw_iload (pc := 39) C dX10_odds_39 4 rfl ?_
  refine aw_aload_n (pc := 41) C dX10_odds_41 rfl 0 rfl ?_
  refine aw_getI (pc := 42) C fl_X10_22 dX10_odds_42 (fun v18 ev18 => ?_)
  refine aw_icmp_gt (pc := 45) C 81 dX10_odds_45 (by decide) (fun c28 => ?_) (fun c28 => ?_)
  · refine aw_iincN (pc := 81) (L1 := [(0, rf E a0), (1, .int a1), (2, .long v13), (5, .int v14)]) (k := 1) C dX10_odds_81 3 rfl (by decide) (by decide) rfl (fun v27 ev27 => ?_)
    refine aw_goto (pc := 84) C 23 dX10_odds_84 (by decide) ?_
    exact aw_sub (L' := [(0, rf E a0), (1, .int a1), (2, .long v13), (4, .int v27)]) [1, 2, 3, 0] rfl (ih9 (v13, v27, h15))
  refine aw_lload_n (pc := 48) C dX10_odds_48 rfl 2 rfl ?_
  refine aw_aload_n (pc := 49) C dX10_odds_49 rfl 0 rfl ?_
  refine aw_iload (pc := 50) C dX10_odds_50 3 rfl ?_
  refine aw_i2l (pc := 52) C dX10_odds_52 ?_
  refine aw_iload (pc := 53) C dX10_odds_53 4 rfl ?_
  refine aw_i2l (pc := 55) C dX10_odds_55 ?_
  refine aw_callVJ (pc := 56) (R := rmX10_odds) (c := 10) (As := [.long v6.toInt64, .long v14.toInt64]) (rest := [.long v13]) (st := [.long v14.toInt64, .long v6.toInt64, rf E a0, .long v13]) (c' := 0) (s' := 0) C hE rfl (by decide) cal_X10_valueAt ml_X10_146 rfl ⟨(Nat.le_of_ble_eq_true rfl), (Nat.le_of_ble_eq_true rfl)⟩ ⟨(Nat.le_of_ble_eq_true rfl), (Nat.le_of_ble_eq_true rfl)⟩ dX10_odds_56 (okX10_valueAt E (kL K) a0 v6.toInt64 v14.toInt64 h15) rfl (Nat.le_of_ble_eq_true rfl) rfl rfl (fun v20 h19 eh19 => ?_)
  refine aw_aload_n (pc := 59) C dX10_odds_59 rfl 0 rfl ?_
  refine aw_getI (pc := 60) C fl_X10_19 dX10_odds_60 (fun v21 ev21 => ?_)
  refine aw_i2l (pc := 63) C dX10_odds_63 ?_
  refine aw_lcmp (pc := 64) C dX10_odds_64 ?_
  refine aw_if_le (pc := 65) C 72 dX10_odds_65 (by decide) (fun c26 => ?_) (fun c26 => ?_)
  · refine aw_lconst (pc := 72) (v := 0) C dX10_odds_72 (by decide) ?_
    refine aw_ladd (pc := 73) C dX10_odds_73 ?_
    refine aw_nmJ (pc := 74) (fun v24 ev24 => ?_)
    refine aw_lstore_n (pc := 74) (L' := [(2, .long v24), (0, rf E a0), (1, .int a1), (4, .int v6), (5, .int v14)]) C dX10_odds_74 rfl (by decide) rfl ?_
    refine aw_iincN (pc := 75) (L1 := [(2, .long v24), (0, rf E a0), (1, .int a1), (4, .int v6)]) (k := 1) C dX10_odds_75 4 rfl (by decide) (by decide) rfl (fun v25 ev25 => ?_)
    refine aw_goto (pc := 78) C 39 dX10_odds_78 (by decide) ?_
    exact aw_sub (L' := [(0, rf E a0), (1, .int a1), (2, .long v24), (4, .int v6), (5, .int v25)]) [2, 3, 1, 4, 0] rfl (ih17 (v24, v25, h19))
  refine aw_lconst (pc := 68) (v := 1) C dX10_odds_68 (by decide) ?_
  refine aw_goto (pc := 69) C 73 dX10_odds_69 (by decide) ?_
  refine aw_ladd (pc := 73) C dX10_odds_73 ?_
  refine aw_nmJ (pc := 74) (fun v22 ev22 => ?_)
  refine aw_lstore_n (pc := 74) (L' := [(2, .long v22), (0, rf E a0), (1, .int a1), (4, .int v6), (5, .int v14)]) C dX10_odds_74 rfl (by decide) rfl ?_
  refine aw_iincN (pc := 75) (L1 := [(2, .long v22), (0, rf E a0), (1, .int a1), (4, .int v6)]) (k := 1) C dX10_odds_75 4 rfl (by decide) (by decide) rfl (fun v23 ev23 => ?_)
  refine aw_goto (pc := 78) C 39 dX10_odds_78 (by decide) ?_
  exact aw_sub (L' := [(0, rf E a0), (1, .int a1), (2, .long v22), (4, .int v6), (5, .int v23)]) [2, 3, 1, 4, 0] rfl (ih17 (v22, v23, h19))
