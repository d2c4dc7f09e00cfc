def rmX2_init : Room := { frames := 1, cells := 3, slots := 15, locals := 12 }
set_option maxHeartbeats 4000000 in
set_option maxRecDepth 100000 in
theorem okX2_init (E : Ev) (l : Launch) (a0 : Nat) (h0 : Mem) : AMet E l yX2_init cX2_init 1 none rmX2_init [rf E a0] h0 rvV (fX2_init a0 h0) := by
  refine am_intro (plainFor_of_name (by decide +kernel)) (Nat.le_of_ble_eq_true rfl) (fun K hKl C hr hnm hz0 => ?_)
  replace C : CxOK K E RX2 cX2_init 1 := C
  have hE : E.1 + 1 ≤ (kS K).heap.size := by omega
  unfold fX2_init
  show Aw K E _ _ _ _ _ 0 [(0, rf E a0)] [] h0 _
  refine aw_aload_n (pc := 0) C dX2_init_0 rfl 0 rfl ?_
  refine aw_objInit (pc := 1) C ml_X2_3 oi_1 oi_2 dX2_init_1 (Nat.le_of_ble_eq_true rfl) (Nat.le_of_ble_eq_true rfl) ?_
  refine aw_aload_n (pc := 4) C dX2_init_4 rfl 0 rfl ?_
  refine aw_iconst (pc := 5) (v := 3) C dX2_init_5 (by decide) ?_
  refine aw_putI (pc := 6) C fw_X2_9 rfl rfl dX2_init_6 (fun h1 eh1 => ?_)
  refine aw_aload_n (pc := 9) C dX2_init_9 rfl 0 rfl ?_
  refine aw_iconst (pc := 10) (v := 5) C dX2_init_10 (by decide) ?_
  refine aw_newAI (pc := 11) (cap := 5) C ac_I hE (Nat.le_of_ble_eq_true rfl) (Nat.le_of_ble_eq_true rfl) (Nat.le_of_ble_eq_true rfl) dX2_init_11 (fun v2 h3 ev2 eh3 => ?_)
  refine aw_putR (pc := 13) C hnm ff_X2_15 rfl rfl dX2_init_13 (fun h4 eh4 => ?_)
  refine aw_aload_n (pc := 16) C dX2_init_16 rfl 0 rfl ?_
  refine aw_iconst (pc := 17) (v := 5) C dX2_init_17 (by decide) ?_
  refine aw_newAJ (pc := 18) (cap := 5) C ac_J hE (Nat.le_of_ble_eq_true rfl) (Nat.le_of_ble_eq_true rfl) (Nat.le_of_ble_eq_true rfl) dX2_init_18 (fun v5 h6 ev5 eh6 => ?_)
  refine aw_putR (pc := 20) C hnm ff_X2_19 rfl rfl dX2_init_20 (fun h7 eh7 => ?_)
  refine aw_aload_n (pc := 23) C dX2_init_23 rfl 0 rfl ?_
  refine aw_iconst (pc := 24) (v := 5) C dX2_init_24 (by decide) ?_
  refine aw_newAJ (pc := 25) (cap := 5) C ac_J hE (Nat.le_of_ble_eq_true rfl) (Nat.le_of_ble_eq_true rfl) (Nat.le_of_ble_eq_true rfl) dX2_init_25 (fun v8 h9 ev8 eh9 => ?_)
  refine aw_putR (pc := 27) C hnm ff_X2_23 rfl rfl dX2_init_27 (fun h10 eh10 => ?_)
  exact aw_return (pc := 30) C hr hz0 rfl dX2_init_30
def rmX1_init : Room := { frames := 2, cells := 4, slots := 19, locals := 32 }
set_option maxHeartbeats 4000000 in
set_option maxRecDepth 100000 in
theorem okX1_init (E : Ev) (l : Launch) (a0 : Nat) (h0 : Mem) : AMet E l yX1_init cX1_init 1 none rmX1_init [rf E a0] h0 rvV (fX1_init a0 h0) := by
  refine am_intro (plainFor_of_name (by decide +kernel)) (Nat.le_of_ble_eq_true rfl) (fun K hKl C hr hnm hz0 => ?_)
  replace C : CxOK K E RX1 cX1_init 1 := C
  have hE : E.1 + 1 ≤ (kS K).heap.size := by omega
  unfold fX1_init
  show Aw K E _ _ _ _ _ 0 [(0, rf E a0)] [] h0 _
  refine aw_aload_n (pc := 0) C dX1_init_0 rfl 0 rfl ?_
  refine aw_objInit (pc := 1) C ml_X1_3 oi_1 oi_2 dX1_init_1 (Nat.le_of_ble_eq_true rfl) (Nat.le_of_ble_eq_true rfl) ?_
  refine aw_aload_n (pc := 4) C dX1_init_4 rfl 0 rfl ?_
  refine aw_new (pc := 5) C clX2 lk_X1_9 in_2 it_2 hE (Nat.le_of_ble_eq_true rfl) (Nat.le_of_ble_eq_true rfl) dX1_init_5 (fun v1 h2 ev1 eh2 => ?_)
  refine aw_dup (pc := 8) C rfl dX1_init_8 ?_
  refine aw_callINV (pc := 9) (R := rmX1_init) (As := []) (rest := [rf E v1, rf E a0]) (st := [rf E v1, rf E v1, rf E a0]) (c' := 4) (s' := 19) C hE cal_X2_init ml_X1_11 rfl ⟨(Nat.le_of_ble_eq_true rfl), (Nat.le_of_ble_eq_true rfl)⟩ ⟨(Nat.le_of_ble_eq_true rfl), (Nat.le_of_ble_eq_true rfl)⟩ dX1_init_9 (okX2_init E (kL K) v1 h2) rfl (Nat.le_of_ble_eq_true rfl) rfl rfl (fun _u h3 eh3 => ?_)
  refine aw_putR (pc := 12) C hnm ff_X1_12 rfl rfl dX1_init_12 (fun h4 eh4 => ?_)
  refine aw_aload_n (pc := 15) C dX1_init_15 rfl 0 rfl ?_
  refine aw_iconst (pc := 16) (v := 1) C dX1_init_16 (by decide) ?_
  refine aw_putI (pc := 17) C fw_X1_18 rfl rfl dX1_init_17 (fun h5 eh5 => ?_)
  refine aw_aload_n (pc := 20) C dX1_init_20 rfl 0 rfl ?_
  refine aw_bipush (pc := 21) (v := 10) C dX1_init_21 (by decide) ?_
  refine aw_putI (pc := 23) C fw_X1_22 rfl rfl dX1_init_23 (fun h6 eh6 => ?_)
  exact aw_return (pc := 26) C hr hz0 rfl dX1_init_26
def rmJ9_max_7cf53 : Room := { frames := 0, cells := 0, slots := 0, locals := 0 }
set_option maxHeartbeats 4000000 in
set_option maxRecDepth 100000 in
theorem okJ9_max_7cf53 (E : Ev) (l : Launch) (a0 : Int32) (a1 : Int32) (h0 : Mem) : AMet E l yJ9_max_7cf53 cJ9_max_7cf53 2 (some (.int)) rmJ9_max_7cf53 [.int a0, .int a1] h0 rvI (fJ9_max_7cf53 a0 a1 h0) := by
  refine am_intro (mathPlain rfl rfl) (Nat.le_of_ble_eq_true rfl) (fun K hKl C hr hnm hz0 => ?_)
  replace C : CxOK K E RJ9 cJ9_max_7cf53 2 := C
  have hE : E.1 + 1 ≤ (kS K).heap.size := by omega
  unfold fJ9_max_7cf53
  show Aw K E _ _ _ _ _ 0 [(0, .int a0), (1, .int a1)] [] h0 _
  refine aw_iload_n (pc := 0) C dJ9_max_7cf53_0 rfl 0 rfl ?_
  refine aw_iload_n (pc := 1) C dJ9_max_7cf53_1 rfl 1 rfl ?_
  refine aw_icmp_lt (pc := 2) C 9 dJ9_max_7cf53_2 (by decide) (fun c1 => ?_) (fun c1 => ?_)
  · refine aw_iload_n (pc := 9) C dJ9_max_7cf53_9 rfl 1 rfl ?_
    exact aw_ireturn (pc := 10) C hr rfl hz0 rfl dJ9_max_7cf53_10
  refine aw_iload_n (pc := 5) C dJ9_max_7cf53_5 rfl 0 rfl ?_
  refine aw_goto (pc := 6) C 10 dJ9_max_7cf53_6 (by decide) ?_
  exact aw_ireturn (pc := 10) C hr rfl hz0 rfl dJ9_max_7cf53_10
def rmX4_init : Room := { frames := 1, cells := 1, slots := 36, locals := 21 }
set_option maxHeartbeats 4000000 in
set_option maxRecDepth 100000 in
theorem okX4_init (E : Ev) (l : Launch) (a0 : Nat) (a1 : Int32) (h0 : Mem) : AMet E l yX4_init cX4_init 2 none rmX4_init [rf E a0, .int a1] h0 rvV (fX4_init a0 a1 h0) := by
  refine am_intro (plainFor_of_name (by decide +kernel)) (Nat.le_of_ble_eq_true rfl) (fun K hKl C hr hnm hz0 => ?_)
  replace C : CxOK K E RX4 cX4_init 2 := C
  have hE : E.1 + 1 ≤ (kS K).heap.size := by omega
  unfold fX4_init
  show Aw K E _ _ _ _ _ 0 [(0, rf E a0), (1, .int a1)] [] h0 _
  refine aw_aload_n (pc := 0) C dX4_init_0 rfl 0 rfl ?_
  refine aw_objInit (pc := 1) C ml_X4_3 oi_1 oi_2 dX4_init_1 (Nat.le_of_ble_eq_true rfl) (Nat.le_of_ble_eq_true rfl) ?_
  refine aw_aload_n (pc := 4) C dX4_init_4 rfl 0 rfl ?_
  refine aw_iconst (pc := 5) (v := 0) C dX4_init_5 (by decide) ?_
  refine aw_putI (pc := 6) C fw_X4_9 rfl rfl dX4_init_6 (fun h1 eh1 => ?_)
  refine aw_aload_n (pc := 9) C dX4_init_9 rfl 0 rfl ?_
  refine aw_iconst (pc := 10) (v := 0) C dX4_init_10 (by decide) ?_
  refine aw_iload_n (pc := 11) C dX4_init_11 rfl 1 rfl ?_
  refine aw_callSI (pc := 12) (R := rmX4_init) (As := [.int 0, .int a1]) (rest := [rf E a0]) (st := [.int a1, .int 0, rf E a0]) (c' := 0) (s' := 0) C hE cal_J9_max_7cf53 ml_X4_15 rfl ⟨(Nat.le_of_ble_eq_true rfl), (Nat.le_of_ble_eq_true rfl)⟩ ⟨(Nat.le_of_ble_eq_true rfl), (Nat.le_of_ble_eq_true rfl)⟩ dX4_init_12 (okJ9_max_7cf53 E (kL K) 0 a1 h1) rfl (Nat.le_of_ble_eq_true rfl) rfl rfl (fun v3 h2 eh2 => ?_)
  refine aw_iconst (pc := 15) (v := 3) C dX4_init_15 (by decide) ?_
  refine aw_imul (pc := 16) C dX4_init_16 ?_
  refine aw_newAI (pc := 17) (cap := 36) C ac_I hE (Nat.le_of_ble_eq_true rfl) (Nat.le_of_ble_eq_true rfl) (Nat.le_of_ble_eq_true rfl) dX4_init_17 (fun v4 h5 ev4 eh5 => ?_)
  refine aw_putR (pc := 19) C hnm ff_X4_21 rfl rfl dX4_init_19 (fun h6 eh6 => ?_)
  exact aw_return (pc := 22) C hr hz0 rfl dX4_init_22
def rmX6_init : Room := { frames := 3, cells := 11, slots := 136, locals := 52 }
set_option maxHeartbeats 4000000 in
set_option maxRecDepth 100000 in
theorem okX6_init (E : Ev) (l : Launch) (a0 : Nat) (h0 : Mem) : AMet E l yX6_init cX6_init 1 none rmX6_init [rf E a0] h0 rvV (fX6_init a0 h0) := by
  refine am_intro (plainFor_of_name (by decide +kernel)) (Nat.le_of_ble_eq_true rfl) (fun K hKl C hr hnm hz0 => ?_)
  replace C : CxOK K E RX6 cX6_init 1 := C
  have hE : E.1 + 1 ≤ (kS K).heap.size := by omega
  unfold fX6_init
  show Aw K E _ _ _ _ _ 0 [(0, rf E a0)] [] h0 _
  refine aw_aload_n (pc := 0) C dX6_init_0 rfl 0 rfl ?_
  refine aw_objInit (pc := 1) C ml_X6_3 oi_1 oi_2 dX6_init_1 (Nat.le_of_ble_eq_true rfl) (Nat.le_of_ble_eq_true rfl) ?_
  refine aw_aload_n (pc := 4) C dX6_init_4 rfl 0 rfl ?_
  refine aw_new (pc := 5) C clX1 lk_X6_9 in_1 it_1 hE (Nat.le_of_ble_eq_true rfl) (Nat.le_of_ble_eq_true rfl) dX6_init_5 (fun v1 h2 ev1 eh2 => ?_)
  refine aw_dup (pc := 8) C rfl dX6_init_8 ?_
  refine aw_callINV (pc := 9) (R := rmX6_init) (As := []) (rest := [rf E v1, rf E a0]) (st := [rf E v1, rf E v1, rf E a0]) (c' := 5) (s' := 22) C hE cal_X1_init ml_X6_11 rfl ⟨(Nat.le_of_ble_eq_true rfl), (Nat.le_of_ble_eq_true rfl)⟩ ⟨(Nat.le_of_ble_eq_true rfl), (Nat.le_of_ble_eq_true rfl)⟩ dX6_init_9 (okX1_init E (kL K) v1 h2) rfl (Nat.le_of_ble_eq_true rfl) rfl rfl (fun _u h3 eh3 => ?_)
  refine aw_putR (pc := 12) C hnm ff_X6_12 rfl rfl dX6_init_12 (fun h4 eh4 => ?_)
  refine aw_aload_n (pc := 15) C dX6_init_15 rfl 0 rfl ?_
  refine aw_new (pc := 16) C clX4 lk_X6_18 in_4 it_4 hE (Nat.le_of_ble_eq_true rfl) (Nat.le_of_ble_eq_true rfl) dX6_init_16 (fun v5 h6 ev5 eh6 => ?_)
  refine aw_dup (pc := 19) C rfl dX6_init_19 ?_
  refine aw_iconst (pc := 20) (v := 4) C dX6_init_20 (by decide) ?_
  refine aw_callIV (pc := 21) (R := rmX6_init) (As := [.int 4]) (rest := [rf E v5, rf E a0]) (st := [.int 4, rf E v5, rf E v5, rf E a0]) (c' := 7) (s' := 60) C hE cal_X4_init ml_X6_20 rfl ⟨(Nat.le_of_ble_eq_true rfl), (Nat.le_of_ble_eq_true rfl)⟩ ⟨(Nat.le_of_ble_eq_true rfl), (Nat.le_of_ble_eq_true rfl)⟩ dX6_init_21 (okX4_init E (kL K) v5 4 h6) rfl (Nat.le_of_ble_eq_true rfl) rfl rfl (fun _u h7 eh7 => ?_)
  refine aw_putR (pc := 24) C hnm ff_X6_23 rfl rfl dX6_init_24 (fun h8 eh8 => ?_)
  refine aw_aload_n (pc := 27) C dX6_init_27 rfl 0 rfl ?_
  refine aw_new (pc := 28) C clX4 lk_X6_18 in_4 it_4 hE (Nat.le_of_ble_eq_true rfl) (Nat.le_of_ble_eq_true rfl) dX6_init_28 (fun v9 h10 ev9 eh10 => ?_)
  refine aw_dup (pc := 31) C rfl dX6_init_31 ?_
  refine aw_bipush (pc := 32) (v := 8) C dX6_init_32 (by decide) ?_
  refine aw_callIV (pc := 34) (R := rmX6_init) (As := [.int 8]) (rest := [rf E v9, rf E a0]) (st := [.int 8, rf E v9, rf E v9, rf E a0]) (c' := 9) (s' := 98) C hE cal_X4_init ml_X6_20 rfl ⟨(Nat.le_of_ble_eq_true rfl), (Nat.le_of_ble_eq_true rfl)⟩ ⟨(Nat.le_of_ble_eq_true rfl), (Nat.le_of_ble_eq_true rfl)⟩ dX6_init_34 (okX4_init E (kL K) v9 8 h10) rfl (Nat.le_of_ble_eq_true rfl) rfl rfl (fun _u h11 eh11 => ?_)
  refine aw_putR (pc := 37) C hnm ff_X6_27 rfl rfl dX6_init_37 (fun h12 eh12 => ?_)
  refine aw_aload_n (pc := 40) C dX6_init_40 rfl 0 rfl ?_
  refine aw_new (pc := 41) C clX4 lk_X6_18 in_4 it_4 hE (Nat.le_of_ble_eq_true rfl) (Nat.le_of_ble_eq_true rfl) dX6_init_41 (fun v13 h14 ev13 eh14 => ?_)
  refine aw_dup (pc := 44) C rfl dX6_init_44 ?_
  refine aw_bipush (pc := 45) (v := 8) C dX6_init_45 (by decide) ?_
  refine aw_callIV (pc := 47) (R := rmX6_init) (As := [.int 8]) (rest := [rf E v13, rf E a0]) (st := [.int 8, rf E v13, rf E v13, rf E a0]) (c' := 11) (s' := 136) C hE cal_X4_init ml_X6_20 rfl ⟨(Nat.le_of_ble_eq_true rfl), (Nat.le_of_ble_eq_true rfl)⟩ ⟨(Nat.le_of_ble_eq_true rfl), (Nat.le_of_ble_eq_true rfl)⟩ dX6_init_47 (okX4_init E (kL K) v13 8 h14) rfl (Nat.le_of_ble_eq_true rfl) rfl rfl (fun _u h15 eh15 => ?_)
  refine aw_putR (pc := 50) C hnm ff_X6_30 rfl rfl dX6_init_50 (fun h16 eh16 => ?_)
  exact aw_return (pc := 53) C hr hz0 rfl dX6_init_53
def rmX0_init : Room := { frames := 3, cells := 6, slots := 6583, locals := 52 }
set_option maxHeartbeats 4000000 in
set_option maxRecDepth 100000 in
theorem okX0_init (E : Ev) (l : Launch) (a0 : Nat) (h0 : Mem) : AMet E l yX0_init cX0_init 1 none rmX0_init [rf E a0] h0 rvV (fX0_init a0 h0) := by
  refine am_intro (plainFor_of_name (by decide +kernel)) (Nat.le_of_ble_eq_true rfl) (fun K hKl C hr hnm hz0 => ?_)
  replace C : CxOK K E RX0 cX0_init 1 := C
  have hE : E.1 + 1 ≤ (kS K).heap.size := by omega
  unfold fX0_init
  show Aw K E _ _ _ _ _ 0 [(0, rf E a0)] [] h0 _
  refine aw_aload_n (pc := 0) C dX0_init_0 rfl 0 rfl ?_
  refine aw_objInit (pc := 1) C ml_X0_3 oi_1 oi_2 dX0_init_1 (Nat.le_of_ble_eq_true rfl) (Nat.le_of_ble_eq_true rfl) ?_
  refine aw_aload_n (pc := 4) C dX0_init_4 rfl 0 rfl ?_
  refine aw_iconst (pc := 5) (v := 0) C dX0_init_5 (by decide) ?_
  refine aw_putI (pc := 6) C fw_X0_9 rfl rfl dX0_init_6 (fun h1 eh1 => ?_)
  refine aw_aload_n (pc := 9) C dX0_init_9 rfl 0 rfl ?_
  refine aw_iconst (pc := 10) (v := 0) C dX0_init_10 (by decide) ?_
  refine aw_putI (pc := 11) C fw_X0_15 rfl rfl dX0_init_11 (fun h2 eh2 => ?_)
  refine aw_aload_n (pc := 14) C dX0_init_14 rfl 0 rfl ?_
  refine aw_iconst (pc := 15) (v := 0) C dX0_init_15 (by decide) ?_
  refine aw_putI (pc := 16) C fw_X0_18 rfl rfl dX0_init_16 (fun h3 eh3 => ?_)
  refine aw_aload_n (pc := 19) C dX0_init_19 rfl 0 rfl ?_
  refine aw_iconst (pc := 20) (v := 0) C dX0_init_20 (by decide) ?_
  refine aw_putI (pc := 21) C fw_X0_22 rfl rfl dX0_init_21 (fun h4 eh4 => ?_)
  refine aw_aload_n (pc := 24) C dX0_init_24 rfl 0 rfl ?_
  refine aw_new (pc := 25) C clX1 lk_X0_25 in_1 it_1 hE (Nat.le_of_ble_eq_true rfl) (Nat.le_of_ble_eq_true rfl) dX0_init_25 (fun v5 h6 ev5 eh6 => ?_)
  refine aw_dup (pc := 28) C rfl dX0_init_28 ?_
  refine aw_callINV (pc := 29) (R := rmX0_init) (As := []) (rest := [rf E v5, rf E a0]) (st := [rf E v5, rf E v5, rf E a0]) (c' := 5) (s' := 22) C hE cal_X1_init ml_X0_27 rfl ⟨(Nat.le_of_ble_eq_true rfl), (Nat.le_of_ble_eq_true rfl)⟩ ⟨(Nat.le_of_ble_eq_true rfl), (Nat.le_of_ble_eq_true rfl)⟩ dX0_init_29 (okX1_init E (kL K) v5 h6) rfl (Nat.le_of_ble_eq_true rfl) rfl rfl (fun _u h7 eh7 => ?_)
  refine aw_putR (pc := 32) C hnm ff_X0_28 rfl rfl dX0_init_32 (fun h8 eh8 => ?_)
  refine aw_aload_n (pc := 35) C dX0_init_35 rfl 0 rfl ?_
  refine aw_sipush (pc := 36) (v := 6561) C dX0_init_36 (by decide) ?_
  refine aw_newAI (pc := 39) (cap := 6561) C ac_I hE (Nat.le_of_ble_eq_true rfl) (Nat.le_of_ble_eq_true rfl) (Nat.le_of_ble_eq_true rfl) dX0_init_39 (fun v9 h10 ev9 eh10 => ?_)
  refine aw_putR (pc := 41) C hnm ff_X0_32 rfl rfl dX0_init_41 (fun h11 eh11 => ?_)
  exact aw_return (pc := 44) C hr hz0 rfl dX0_init_44
def rmX8_init : Room := { frames := 1, cells := 1, slots := 416, locals := 12 }
set_option maxHeartbeats 4000000 in
set_option maxRecDepth 100000 in
theorem okX8_init (E : Ev) (l : Launch) (a0 : Nat) (h0 : Mem) : AMet E l yX8_init cX8_init 1 none rmX8_init [rf E a0] h0 rvV (fX8_init a0 h0) := by
  refine am_intro (plainFor_of_name (by decide +kernel)) (Nat.le_of_ble_eq_true rfl) (fun K hKl C hr hnm hz0 => ?_)
  replace C : CxOK K E RX8 cX8_init 1 := C
  have hE : E.1 + 1 ≤ (kS K).heap.size := by omega
  unfold fX8_init
  show Aw K E _ _ _ _ _ 0 [(0, rf E a0)] [] h0 _
  refine aw_aload_n (pc := 0) C dX8_init_0 rfl 0 rfl ?_
  refine aw_objInit (pc := 1) C ml_X8_1 oi_1 oi_2 dX8_init_1 (Nat.le_of_ble_eq_true rfl) (Nat.le_of_ble_eq_true rfl) ?_
  refine aw_aload_n (pc := 4) C dX8_init_4 rfl 0 rfl ?_
  refine aw_iconst (pc := 5) (v := 0) C dX8_init_5 (by decide) ?_
  refine aw_putI (pc := 6) C fw_X8_7 rfl rfl dX8_init_6 (fun h1 eh1 => ?_)
  refine aw_aload_n (pc := 9) C dX8_init_9 rfl 0 rfl ?_
  refine aw_sipush (pc := 10) (v := 416) C dX8_init_10 (by decide) ?_
  refine aw_newAI (pc := 13) (cap := 416) C ac_I hE (Nat.le_of_ble_eq_true rfl) (Nat.le_of_ble_eq_true rfl) (Nat.le_of_ble_eq_true rfl) dX8_init_13 (fun v2 h3 ev2 eh3 => ?_)
  refine aw_putR (pc := 15) C hnm ff_X8_13 rfl rfl dX8_init_15 (fun h4 eh4 => ?_)
  exact aw_return (pc := 18) C hr hz0 rfl dX8_init_18
def rmX3_init : Room := { frames := 1, cells := 4, slots := 29, locals := 12 }
set_option maxHeartbeats 4000000 in
set_option maxRecDepth 100000 in
theorem okX3_init (E : Ev) (l : Launch) (a0 : Nat) (h0 : Mem) : AMet E l yX3_init cX3_init 1 none rmX3_init [rf E a0] h0 rvV (fX3_init a0 h0) := by
  refine am_intro (plainFor_of_name (by decide +kernel)) (Nat.le_of_ble_eq_true rfl) (fun K hKl C hr hnm hz0 => ?_)
  replace C : CxOK K E RX3 cX3_init 1 := C
  have hE : E.1 + 1 ≤ (kS K).heap.size := by omega
  unfold fX3_init
  show Aw K E _ _ _ _ _ 0 [(0, rf E a0)] [] h0 _
  refine aw_aload_n (pc := 0) C dX3_init_0 rfl 0 rfl ?_
  refine aw_objInit (pc := 1) C ml_X3_3 oi_1 oi_2 dX3_init_1 (Nat.le_of_ble_eq_true rfl) (Nat.le_of_ble_eq_true rfl) ?_
  refine aw_aload_n (pc := 4) C dX3_init_4 rfl 0 rfl ?_
  refine aw_iconst (pc := 5) (v := 0) C dX3_init_5 (by decide) ?_
  refine aw_putI (pc := 6) C fw_X3_9 rfl rfl dX3_init_6 (fun h1 eh1 => ?_)
  refine aw_aload_n (pc := 9) C dX3_init_9 rfl 0 rfl ?_
  refine aw_iconst (pc := 10) (v := 0) C dX3_init_10 (by decide) ?_
  refine aw_putI (pc := 11) C fw_X3_15 rfl rfl dX3_init_11 (fun h2 eh2 => ?_)
  refine aw_aload_n (pc := 14) C dX3_init_14 rfl 0 rfl ?_
  refine aw_iconst (pc := 15) (v := 5) C dX3_init_15 (by decide) ?_
  refine aw_newAJ (pc := 16) (cap := 5) C ac_J hE (Nat.le_of_ble_eq_true rfl) (Nat.le_of_ble_eq_true rfl) (Nat.le_of_ble_eq_true rfl) dX3_init_16 (fun v3 h4 ev3 eh4 => ?_)
  refine aw_putR (pc := 18) C hnm ff_X3_18 rfl rfl dX3_init_18 (fun h5 eh5 => ?_)
  refine aw_aload_n (pc := 21) C dX3_init_21 rfl 0 rfl ?_
  refine aw_bipush (pc := 22) (v := 8) C dX3_init_22 (by decide) ?_
  refine aw_newAI (pc := 24) (cap := 8) C ac_I hE (Nat.le_of_ble_eq_true rfl) (Nat.le_of_ble_eq_true rfl) (Nat.le_of_ble_eq_true rfl) dX3_init_24 (fun v6 h7 ev6 eh7 => ?_)
  refine aw_putR (pc := 26) C hnm ff_X3_22 rfl rfl dX3_init_26 (fun h8 eh8 => ?_)
  refine aw_aload_n (pc := 29) C dX3_init_29 rfl 0 rfl ?_
  refine aw_bipush (pc := 30) (v := 8) C dX3_init_30 (by decide) ?_
  refine aw_newAJ (pc := 32) (cap := 8) C ac_J hE (Nat.le_of_ble_eq_true rfl) (Nat.le_of_ble_eq_true rfl) (Nat.le_of_ble_eq_true rfl) dX3_init_32 (fun v9 h10 ev9 eh10 => ?_)
  refine aw_putR (pc := 34) C hnm ff_X3_26 rfl rfl dX3_init_34 (fun h11 eh11 => ?_)
  refine aw_aload_n (pc := 37) C dX3_init_37 rfl 0 rfl ?_
  refine aw_bipush (pc := 38) (v := 8) C dX3_init_38 (by decide) ?_
  refine aw_newAJ (pc := 40) (cap := 8) C ac_J hE (Nat.le_of_ble_eq_true rfl) (Nat.le_of_ble_eq_true rfl) (Nat.le_of_ble_eq_true rfl) dX3_init_40 (fun v12 h13 ev12 eh13 => ?_)
  refine aw_putR (pc := 42) C hnm ff_X3_29 rfl rfl dX3_init_42 (fun h14 eh14 => ?_)
  exact aw_return (pc := 45) C hr hz0 rfl dX3_init_45
def rmX5_init : Room := { frames := 2, cells := 3, slots := 138, locals := 42 }
set_option maxHeartbeats 4000000 in
set_option maxRecDepth 100000 in
theorem okX5_init (E : Ev) (l : Launch) (a0 : Nat) (h0 : Mem) : AMet E l yX5_init cX5_init 1 none rmX5_init [rf E a0] h0 rvV (fX5_init a0 h0) := by
  refine am_intro (plainFor_of_name (by decide +kernel)) (Nat.le_of_ble_eq_true rfl) (fun K hKl C hr hnm hz0 => ?_)
  replace C : CxOK K E RX5 cX5_init 1 := C
  have hE : E.1 + 1 ≤ (kS K).heap.size := by omega
  unfold fX5_init
  show Aw K E _ _ _ _ _ 0 [(0, rf E a0)] [] h0 _
  refine aw_aload_n (pc := 0) C dX5_init_0 rfl 0 rfl ?_
  refine aw_objInit (pc := 1) C ml_X5_1 oi_1 oi_2 dX5_init_1 (Nat.le_of_ble_eq_true rfl) (Nat.le_of_ble_eq_true rfl) ?_
  refine aw_aload_n (pc := 4) C dX5_init_4 rfl 0 rfl ?_
  refine aw_iconst (pc := 5) (v := 0) C dX5_init_5 (by decide) ?_
  refine aw_putI (pc := 6) C fw_X5_7 rfl rfl dX5_init_6 (fun h1 eh1 => ?_)
  refine aw_aload_n (pc := 9) C dX5_init_9 rfl 0 rfl ?_
  refine aw_new (pc := 10) C clX4 lk_X5_13 in_4 it_4 hE (Nat.le_of_ble_eq_true rfl) (Nat.le_of_ble_eq_true rfl) dX5_init_10 (fun v2 h3 ev2 eh3 => ?_)
  refine aw_dup (pc := 13) C rfl dX5_init_13 ?_
  refine aw_bipush (pc := 14) (v := 12) C dX5_init_14 (by decide) ?_
  refine aw_callIV (pc := 16) (R := rmX5_init) (As := [.int 12]) (rest := [rf E v2, rf E a0]) (st := [.int 12, rf E v2, rf E v2, rf E a0]) (c' := 2) (s' := 38) C hE cal_X4_init ml_X5_15 rfl ⟨(Nat.le_of_ble_eq_true rfl), (Nat.le_of_ble_eq_true rfl)⟩ ⟨(Nat.le_of_ble_eq_true rfl), (Nat.le_of_ble_eq_true rfl)⟩ dX5_init_16 (okX4_init E (kL K) v2 12 h3) rfl (Nat.le_of_ble_eq_true rfl) rfl rfl (fun _u h4 eh4 => ?_)
  refine aw_putR (pc := 19) C hnm ff_X5_18 rfl rfl dX5_init_19 (fun h5 eh5 => ?_)
  refine aw_aload_n (pc := 22) C dX5_init_22 rfl 0 rfl ?_
  refine aw_bipush (pc := 23) (v := 100) C dX5_init_23 (by decide) ?_
  refine aw_newAI (pc := 25) (cap := 100) C ac_I hE (Nat.le_of_ble_eq_true rfl) (Nat.le_of_ble_eq_true rfl) (Nat.le_of_ble_eq_true rfl) dX5_init_25 (fun v6 h7 ev6 eh7 => ?_)
  refine aw_putR (pc := 27) C hnm ff_X5_22 rfl rfl dX5_init_27 (fun h8 eh8 => ?_)
  refine aw_aload_n (pc := 30) C dX5_init_30 rfl 0 rfl ?_
  refine aw_iconst (pc := 31) (v := 0) C dX5_init_31 (by decide) ?_
  refine aw_putI (pc := 32) C fw_X5_26 rfl rfl dX5_init_32 (fun h9 eh9 => ?_)
  refine aw_aload_n (pc := 35) C dX5_init_35 rfl 0 rfl ?_
  refine aw_iconst (pc := 36) (v := 0) C dX5_init_36 (by decide) ?_
  refine aw_putI (pc := 37) C fw_X5_29 rfl rfl dX5_init_37 (fun h10 eh10 => ?_)
  refine aw_aload_n (pc := 40) C dX5_init_40 rfl 0 rfl ?_
  refine aw_iconst (pc := 41) (v := 0) C dX5_init_41 (by decide) ?_
  refine aw_putI (pc := 42) C fw_X5_32 rfl rfl dX5_init_42 (fun h11 eh11 => ?_)
  exact aw_return (pc := 45) C hr hz0 rfl dX5_init_45
def rmX7_init : Room := { frames := 1, cells := 1, slots := 60, locals := 12 }
set_option maxHeartbeats 4000000 in
set_option maxRecDepth 100000 in
theorem okX7_init (E : Ev) (l : Launch) (a0 : Nat) (h0 : Mem) : AMet E l yX7_init cX7_init 1 none rmX7_init [rf E a0] h0 rvV (fX7_init a0 h0) := by
  refine am_intro (plainFor_of_name (by decide +kernel)) (Nat.le_of_ble_eq_true rfl) (fun K hKl C hr hnm hz0 => ?_)
  replace C : CxOK K E RX7 cX7_init 1 := C
  have hE : E.1 + 1 ≤ (kS K).heap.size := by omega
  unfold fX7_init
  show Aw K E _ _ _ _ _ 0 [(0, rf E a0)] [] h0 _
  refine aw_aload_n (pc := 0) C dX7_init_0 rfl 0 rfl ?_
  refine aw_objInit (pc := 1) C ml_X7_3 oi_1 oi_2 dX7_init_1 (Nat.le_of_ble_eq_true rfl) (Nat.le_of_ble_eq_true rfl) ?_
  refine aw_aload_n (pc := 4) C dX7_init_4 rfl 0 rfl ?_
  refine aw_iconst (pc := 5) (v := (-1)) C dX7_init_5 (by decide) ?_
  refine aw_putI (pc := 6) C fw_X7_9 rfl rfl dX7_init_6 (fun h1 eh1 => ?_)
  refine aw_aload_n (pc := 9) C dX7_init_9 rfl 0 rfl ?_
  refine aw_bipush (pc := 10) (v := 60) C dX7_init_10 (by decide) ?_
  refine aw_newAJ (pc := 12) (cap := 60) C ac_J hE (Nat.le_of_ble_eq_true rfl) (Nat.le_of_ble_eq_true rfl) (Nat.le_of_ble_eq_true rfl) dX7_init_12 (fun v2 h3 ev2 eh3 => ?_)
  refine aw_putR (pc := 14) C hnm ff_X7_15 rfl rfl dX7_init_14 (fun h4 eh4 => ?_)
  refine aw_aload_n (pc := 17) C dX7_init_17 rfl 0 rfl ?_
  refine aw_iconst (pc := 18) (v := 0) C dX7_init_18 (by decide) ?_
  refine aw_putI (pc := 19) C fw_X7_19 rfl rfl dX7_init_19 (fun h5 eh5 => ?_)
  exact aw_return (pc := 22) C hr hz0 rfl dX7_init_22
def rmX9_init : Room := { frames := 4, cells := 60, slots := 7872, locals := 72 }
set_option maxHeartbeats 4000000 in
set_option maxRecDepth 100000 in
theorem okX9_init (E : Ev) (l : Launch) (a0 : Nat) (h0 : Mem) : AMet E l yX9_init cX9_init 2 none rmX9_init [rf E a0] h0 rvV (fX9_init a0 h0) := by
  refine am_intro (plainFor_of_name (by decide +kernel)) (Nat.le_of_ble_eq_true rfl) (fun K hKl C hr hnm hz0 => ?_)
  replace C : CxOK K E RX9 cX9_init 2 := C
  have hE : E.1 + 1 ≤ (kS K).heap.size := by omega
  unfold fX9_init
  show Aw K E _ _ _ _ _ 0 [(0, rf E a0)] [] h0 _
  refine aw_aload_n (pc := 0) C dX9_init_0 rfl 0 rfl ?_
  refine aw_objInit (pc := 1) C ml_X9_3 oi_1 oi_2 dX9_init_1 (Nat.le_of_ble_eq_true rfl) (Nat.le_of_ble_eq_true rfl) ?_
  refine aw_aload_n (pc := 4) C dX9_init_4 rfl 0 rfl ?_
  refine aw_new (pc := 5) C clX6 lk_X9_9 in_6 it_6 hE (Nat.le_of_ble_eq_true rfl) (Nat.le_of_ble_eq_true rfl) dX9_init_5 (fun v1 h2 ev1 eh2 => ?_)
  refine aw_dup (pc := 8) C rfl dX9_init_8 ?_
  refine aw_callINV (pc := 9) (R := rmX9_init) (As := []) (rest := [rf E v1, rf E a0]) (st := [rf E v1, rf E v1, rf E a0]) (c' := 12) (s' := 140) C hE cal_X6_init ml_X9_11 rfl ⟨(Nat.le_of_ble_eq_true rfl), (Nat.le_of_ble_eq_true rfl)⟩ ⟨(Nat.le_of_ble_eq_true rfl), (Nat.le_of_ble_eq_true rfl)⟩ dX9_init_9 (okX6_init E (kL K) v1 h2) rfl (Nat.le_of_ble_eq_true rfl) rfl rfl (fun _u h3 eh3 => ?_)
  refine aw_putR (pc := 12) C hnm ff_X9_12 rfl rfl dX9_init_12 (fun h4 eh4 => ?_)
  refine aw_aload_n (pc := 15) C dX9_init_15 rfl 0 rfl ?_
  refine aw_new (pc := 16) C clX6 lk_X9_9 in_6 it_6 hE (Nat.le_of_ble_eq_true rfl) (Nat.le_of_ble_eq_true rfl) dX9_init_16 (fun v5 h6 ev5 eh6 => ?_)
  refine aw_dup (pc := 19) C rfl dX9_init_19 ?_
  refine aw_callINV (pc := 20) (R := rmX9_init) (As := []) (rest := [rf E v5, rf E a0]) (st := [rf E v5, rf E v5, rf E a0]) (c' := 24) (s' := 280) C hE cal_X6_init ml_X9_11 rfl ⟨(Nat.le_of_ble_eq_true rfl), (Nat.le_of_ble_eq_true rfl)⟩ ⟨(Nat.le_of_ble_eq_true rfl), (Nat.le_of_ble_eq_true rfl)⟩ dX9_init_20 (okX6_init E (kL K) v5 h6) rfl (Nat.le_of_ble_eq_true rfl) rfl rfl (fun _u h7 eh7 => ?_)
  refine aw_putR (pc := 23) C hnm ff_X9_18 rfl rfl dX9_init_23 (fun h8 eh8 => ?_)
  refine aw_aload_n (pc := 26) C dX9_init_26 rfl 0 rfl ?_
  refine aw_iconst (pc := 27) (v := 0) C dX9_init_27 (by decide) ?_
  refine aw_putI (pc := 28) C fw_X9_21 rfl rfl dX9_init_28 (fun h9 eh9 => ?_)
  refine aw_aload_n (pc := 31) C dX9_init_31 rfl 0 rfl ?_
  refine aw_new (pc := 32) C clX1 lk_X9_25 in_1 it_1 hE (Nat.le_of_ble_eq_true rfl) (Nat.le_of_ble_eq_true rfl) dX9_init_32 (fun v10 h11 ev10 eh11 => ?_)
  refine aw_dup (pc := 35) C rfl dX9_init_35 ?_
  refine aw_callINV (pc := 36) (R := rmX9_init) (As := []) (rest := [rf E v10, rf E a0]) (st := [rf E v10, rf E v10, rf E a0]) (c' := 29) (s' := 302) C hE cal_X1_init ml_X9_27 rfl ⟨(Nat.le_of_ble_eq_true rfl), (Nat.le_of_ble_eq_true rfl)⟩ ⟨(Nat.le_of_ble_eq_true rfl), (Nat.le_of_ble_eq_true rfl)⟩ dX9_init_36 (okX1_init E (kL K) v10 h11) rfl (Nat.le_of_ble_eq_true rfl) rfl rfl (fun _u h12 eh12 => ?_)
  refine aw_putR (pc := 39) C hnm ff_X9_28 rfl rfl dX9_init_39 (fun h13 eh13 => ?_)
  refine aw_aload_n (pc := 42) C dX9_init_42 rfl 0 rfl ?_
  refine aw_new (pc := 43) C clX0 lk_X9_32 in_0 it_0 hE (Nat.le_of_ble_eq_true rfl) (Nat.le_of_ble_eq_true rfl) dX9_init_43 (fun v14 h15 ev14 eh15 => ?_)
  refine aw_dup (pc := 46) C rfl dX9_init_46 ?_
  refine aw_callINV (pc := 47) (R := rmX9_init) (As := []) (rest := [rf E v14, rf E a0]) (st := [rf E v14, rf E v14, rf E a0]) (c' := 36) (s' := 6891) C hE cal_X0_init ml_X9_34 rfl ⟨(Nat.le_of_ble_eq_true rfl), (Nat.le_of_ble_eq_true rfl)⟩ ⟨(Nat.le_of_ble_eq_true rfl), (Nat.le_of_ble_eq_true rfl)⟩ dX9_init_47 (okX0_init E (kL K) v14 h15) rfl (Nat.le_of_ble_eq_true rfl) rfl rfl (fun _u h16 eh16 => ?_)
  refine aw_putR (pc := 50) C hnm ff_X9_35 rfl rfl dX9_init_50 (fun h17 eh17 => ?_)
  refine aw_aload_n (pc := 53) C dX9_init_53 rfl 0 rfl ?_
  refine aw_new (pc := 54) C clX8 lk_X9_39 in_8 it_8 hE (Nat.le_of_ble_eq_true rfl) (Nat.le_of_ble_eq_true rfl) dX9_init_54 (fun v18 h19 ev18 eh19 => ?_)
  refine aw_dup (pc := 57) C rfl dX9_init_57 ?_
  refine aw_callINV (pc := 58) (R := rmX9_init) (As := []) (rest := [rf E v18, rf E a0]) (st := [rf E v18, rf E v18, rf E a0]) (c' := 38) (s' := 7309) C hE cal_X8_init ml_X9_41 rfl ⟨(Nat.le_of_ble_eq_true rfl), (Nat.le_of_ble_eq_true rfl)⟩ ⟨(Nat.le_of_ble_eq_true rfl), (Nat.le_of_ble_eq_true rfl)⟩ dX9_init_58 (okX8_init E (kL K) v18 h19) rfl (Nat.le_of_ble_eq_true rfl) rfl rfl (fun _u h20 eh20 => ?_)
  refine aw_putR (pc := 61) C hnm ff_X9_42 rfl rfl dX9_init_61 (fun h21 eh21 => ?_)
  refine aw_aload_n (pc := 64) C dX9_init_64 rfl 0 rfl ?_
  refine aw_new (pc := 65) C clX3 lk_X9_46 in_3 it_3 hE (Nat.le_of_ble_eq_true rfl) (Nat.le_of_ble_eq_true rfl) dX9_init_65 (fun v22 h23 ev22 eh23 => ?_)
  refine aw_dup (pc := 68) C rfl dX9_init_68 ?_
  refine aw_callINV (pc := 69) (R := rmX9_init) (As := []) (rest := [rf E v22, rf E a0]) (st := [rf E v22, rf E v22, rf E a0]) (c' := 43) (s' := 7344) C hE cal_X3_init ml_X9_48 rfl ⟨(Nat.le_of_ble_eq_true rfl), (Nat.le_of_ble_eq_true rfl)⟩ ⟨(Nat.le_of_ble_eq_true rfl), (Nat.le_of_ble_eq_true rfl)⟩ dX9_init_69 (okX3_init E (kL K) v22 h23) rfl (Nat.le_of_ble_eq_true rfl) rfl rfl (fun _u h24 eh24 => ?_)
  refine aw_putR (pc := 72) C hnm ff_X9_49 rfl rfl dX9_init_72 (fun h25 eh25 => ?_)
  refine aw_aload_n (pc := 75) C dX9_init_75 rfl 0 rfl ?_
  refine aw_new (pc := 76) C clX5 lk_X9_53 in_5 it_5 hE (Nat.le_of_ble_eq_true rfl) (Nat.le_of_ble_eq_true rfl) dX9_init_76 (fun v26 h27 ev26 eh27 => ?_)
  refine aw_dup (pc := 79) C rfl dX9_init_79 ?_
  refine aw_callINV (pc := 80) (R := rmX9_init) (As := []) (rest := [rf E v26, rf E a0]) (st := [rf E v26, rf E v26, rf E a0]) (c' := 47) (s' := 7488) C hE cal_X5_init ml_X9_55 rfl ⟨(Nat.le_of_ble_eq_true rfl), (Nat.le_of_ble_eq_true rfl)⟩ ⟨(Nat.le_of_ble_eq_true rfl), (Nat.le_of_ble_eq_true rfl)⟩ dX9_init_80 (okX5_init E (kL K) v26 h27) rfl (Nat.le_of_ble_eq_true rfl) rfl rfl (fun _u h28 eh28 => ?_)
  refine aw_putR (pc := 83) C hnm ff_X9_56 rfl rfl dX9_init_83 (fun h29 eh29 => ?_)
  refine aw_aload_n (pc := 86) C dX9_init_86 rfl 0 rfl ?_
  refine aw_bipush (pc := 87) (v := 6) C dX9_init_87 (by decide) ?_
  refine aw_newq (pc := 89) (cap := 6) C lk_X9_60 hE (Nat.le_of_ble_eq_true rfl) (Nat.le_of_ble_eq_true rfl) (Nat.le_of_ble_eq_true rfl) dX9_init_89 (fun v30 h31 ev30 eh31 => ?_)
  refine aw_putR (pc := 92) C hnm ff_X9_62 rfl rfl dX9_init_92 (fun h32 eh32 => ?_)
  refine aw_iconst (pc := 95) (v := 0) C dX9_init_95 (by decide) ?_
  refine aw_istore_n (pc := 96) (L' := [(1, .int 0), (0, rf E a0)]) C dX9_init_96 rfl (by decide) rfl ?_
  refine aw_iload_n (pc := 97) C dX9_init_97 rfl 0 rfl ?_
  refine aw_aload_n (pc := 98) C dX9_init_98 rfl 1 rfl ?_
  refine aw_getR (pc := 99) C fl_X9_62 dX9_init_99 (fun v33 ev33 => ?_)
  refine aw_arraylength (pc := 102) C dX9_init_102 (fun v34 ev34 => ?_)
  refine aw_icmp_ge (pc := 103) C 125 dX9_init_103 (by decide) (fun c83 => ?_) (fun c83 => ?_)
  · exact aw_none
  refine aw_aload_n (pc := 106) C dX9_init_106 rfl 1 rfl ?_
  refine aw_getR (pc := 107) C fl_X9_62 dX9_init_107 (fun v35 ev35 => ?_)
  refine aw_iload_n (pc := 110) C dX9_init_110 rfl 0 rfl ?_
  refine aw_new (pc := 111) C clX7 lk_X9_60 in_7 it_7 hE (Nat.le_of_ble_eq_true rfl) (Nat.le_of_ble_eq_true rfl) dX9_init_111 (fun v36 h37 ev36 eh37 => ?_)
  refine aw_dup (pc := 114) C rfl dX9_init_114 ?_
  refine aw_callINV (pc := 115) (R := rmX9_init) (As := []) (rest := [rf E v36, .int 0, rf E v35]) (st := [rf E v36, rf E v36, .int 0, rf E v35]) (c' := 50) (s' := 7557) C hE cal_X7_init ml_X9_66 rfl ⟨(Nat.le_of_ble_eq_true rfl), (Nat.le_of_ble_eq_true rfl)⟩ ⟨(Nat.le_of_ble_eq_true rfl), (Nat.le_of_ble_eq_true rfl)⟩ dX9_init_115 (okX7_init E (kL K) v36 h37) rfl (Nat.le_of_ble_eq_true rfl) rfl rfl (fun _u h38 eh38 => ?_)
  refine aw_aastore (pc := 118) C dX9_init_118 (fun h39 eh39 => ?_)
  refine aw_iinc (pc := 119) (v := 1) (L' := [(1, .int 1), (0, rf E a0)]) C dX9_init_119 0 rfl (by decide) (by decide) rfl ?_
  refine aw_goto (pc := 122) C 97 dX9_init_122 (by decide) ?_
  refine aw_iload_n (pc := 97) C dX9_init_97 rfl 0 rfl ?_
  refine aw_aload_n (pc := 98) C dX9_init_98 rfl 1 rfl ?_
  refine aw_getR (pc := 99) C fl_X9_62 dX9_init_99 (fun v40 ev40 => ?_)
  refine aw_arraylength (pc := 102) C dX9_init_102 (fun v41 ev41 => ?_)
  refine aw_icmp_ge (pc := 103) C 125 dX9_init_103 (by decide) (fun c82 => ?_) (fun c82 => ?_)
  · exact aw_none
  refine aw_aload_n (pc := 106) C dX9_init_106 rfl 1 rfl ?_
  refine aw_getR (pc := 107) C fl_X9_62 dX9_init_107 (fun v42 ev42 => ?_)
  refine aw_iload_n (pc := 110) C dX9_init_110 rfl 0 rfl ?_
  refine aw_new (pc := 111) C clX7 lk_X9_60 in_7 it_7 hE (Nat.le_of_ble_eq_true rfl) (Nat.le_of_ble_eq_true rfl) dX9_init_111 (fun v43 h44 ev43 eh44 => ?_)
  refine aw_dup (pc := 114) C rfl dX9_init_114 ?_
  refine aw_callINV (pc := 115) (R := rmX9_init) (As := []) (rest := [rf E v43, .int 1, rf E v42]) (st := [rf E v43, rf E v43, .int 1, rf E v42]) (c' := 52) (s' := 7620) C hE cal_X7_init ml_X9_66 rfl ⟨(Nat.le_of_ble_eq_true rfl), (Nat.le_of_ble_eq_true rfl)⟩ ⟨(Nat.le_of_ble_eq_true rfl), (Nat.le_of_ble_eq_true rfl)⟩ dX9_init_115 (okX7_init E (kL K) v43 h44) rfl (Nat.le_of_ble_eq_true rfl) rfl rfl (fun _u h45 eh45 => ?_)
  refine aw_aastore (pc := 118) C dX9_init_118 (fun h46 eh46 => ?_)
  refine aw_iinc (pc := 119) (v := 2) (L' := [(1, .int 2), (0, rf E a0)]) C dX9_init_119 0 rfl (by decide) (by decide) rfl ?_
  refine aw_goto (pc := 122) C 97 dX9_init_122 (by decide) ?_
  refine aw_iload_n (pc := 97) C dX9_init_97 rfl 0 rfl ?_
  refine aw_aload_n (pc := 98) C dX9_init_98 rfl 1 rfl ?_
  refine aw_getR (pc := 99) C fl_X9_62 dX9_init_99 (fun v47 ev47 => ?_)
  refine aw_arraylength (pc := 102) C dX9_init_102 (fun v48 ev48 => ?_)
  refine aw_icmp_ge (pc := 103) C 125 dX9_init_103 (by decide) (fun c81 => ?_) (fun c81 => ?_)
  · exact aw_none
  refine aw_aload_n (pc := 106) C dX9_init_106 rfl 1 rfl ?_
  refine aw_getR (pc := 107) C fl_X9_62 dX9_init_107 (fun v49 ev49 => ?_)
  refine aw_iload_n (pc := 110) C dX9_init_110 rfl 0 rfl ?_
  refine aw_new (pc := 111) C clX7 lk_X9_60 in_7 it_7 hE (Nat.le_of_ble_eq_true rfl) (Nat.le_of_ble_eq_true rfl) dX9_init_111 (fun v50 h51 ev50 eh51 => ?_)
  refine aw_dup (pc := 114) C rfl dX9_init_114 ?_
  refine aw_callINV (pc := 115) (R := rmX9_init) (As := []) (rest := [rf E v50, .int 2, rf E v49]) (st := [rf E v50, rf E v50, .int 2, rf E v49]) (c' := 54) (s' := 7683) C hE cal_X7_init ml_X9_66 rfl ⟨(Nat.le_of_ble_eq_true rfl), (Nat.le_of_ble_eq_true rfl)⟩ ⟨(Nat.le_of_ble_eq_true rfl), (Nat.le_of_ble_eq_true rfl)⟩ dX9_init_115 (okX7_init E (kL K) v50 h51) rfl (Nat.le_of_ble_eq_true rfl) rfl rfl (fun _u h52 eh52 => ?_)
  refine aw_aastore (pc := 118) C dX9_init_118 (fun h53 eh53 => ?_)
  refine aw_iinc (pc := 119) (v := 3) (L' := [(1, .int 3), (0, rf E a0)]) C dX9_init_119 0 rfl (by decide) (by decide) rfl ?_
  refine aw_goto (pc := 122) C 97 dX9_init_122 (by decide) ?_
  refine aw_iload_n (pc := 97) C dX9_init_97 rfl 0 rfl ?_
  refine aw_aload_n (pc := 98) C dX9_init_98 rfl 1 rfl ?_
  refine aw_getR (pc := 99) C fl_X9_62 dX9_init_99 (fun v54 ev54 => ?_)
  refine aw_arraylength (pc := 102) C dX9_init_102 (fun v55 ev55 => ?_)
  refine aw_icmp_ge (pc := 103) C 125 dX9_init_103 (by decide) (fun c80 => ?_) (fun c80 => ?_)
  · exact aw_none
  refine aw_aload_n (pc := 106) C dX9_init_106 rfl 1 rfl ?_
  refine aw_getR (pc := 107) C fl_X9_62 dX9_init_107 (fun v56 ev56 => ?_)
  refine aw_iload_n (pc := 110) C dX9_init_110 rfl 0 rfl ?_
  refine aw_new (pc := 111) C clX7 lk_X9_60 in_7 it_7 hE (Nat.le_of_ble_eq_true rfl) (Nat.le_of_ble_eq_true rfl) dX9_init_111 (fun v57 h58 ev57 eh58 => ?_)
  refine aw_dup (pc := 114) C rfl dX9_init_114 ?_
  refine aw_callINV (pc := 115) (R := rmX9_init) (As := []) (rest := [rf E v57, .int 3, rf E v56]) (st := [rf E v57, rf E v57, .int 3, rf E v56]) (c' := 56) (s' := 7746) C hE cal_X7_init ml_X9_66 rfl ⟨(Nat.le_of_ble_eq_true rfl), (Nat.le_of_ble_eq_true rfl)⟩ ⟨(Nat.le_of_ble_eq_true rfl), (Nat.le_of_ble_eq_true rfl)⟩ dX9_init_115 (okX7_init E (kL K) v57 h58) rfl (Nat.le_of_ble_eq_true rfl) rfl rfl (fun _u h59 eh59 => ?_)
  refine aw_aastore (pc := 118) C dX9_init_118 (fun h60 eh60 => ?_)
  refine aw_iinc (pc := 119) (v := 4) (L' := [(1, .int 4), (0, rf E a0)]) C dX9_init_119 0 rfl (by decide) (by decide) rfl ?_
  refine aw_goto (pc := 122) C 97 dX9_init_122 (by decide) ?_
  refine aw_iload_n (pc := 97) C dX9_init_97 rfl 0 rfl ?_
  refine aw_aload_n (pc := 98) C dX9_init_98 rfl 1 rfl ?_
  refine aw_getR (pc := 99) C fl_X9_62 dX9_init_99 (fun v61 ev61 => ?_)
  refine aw_arraylength (pc := 102) C dX9_init_102 (fun v62 ev62 => ?_)
  refine aw_icmp_ge (pc := 103) C 125 dX9_init_103 (by decide) (fun c79 => ?_) (fun c79 => ?_)
  · exact aw_none
  refine aw_aload_n (pc := 106) C dX9_init_106 rfl 1 rfl ?_
  refine aw_getR (pc := 107) C fl_X9_62 dX9_init_107 (fun v63 ev63 => ?_)
  refine aw_iload_n (pc := 110) C dX9_init_110 rfl 0 rfl ?_
  refine aw_new (pc := 111) C clX7 lk_X9_60 in_7 it_7 hE (Nat.le_of_ble_eq_true rfl) (Nat.le_of_ble_eq_true rfl) dX9_init_111 (fun v64 h65 ev64 eh65 => ?_)
  refine aw_dup (pc := 114) C rfl dX9_init_114 ?_
  refine aw_callINV (pc := 115) (R := rmX9_init) (As := []) (rest := [rf E v64, .int 4, rf E v63]) (st := [rf E v64, rf E v64, .int 4, rf E v63]) (c' := 58) (s' := 7809) C hE cal_X7_init ml_X9_66 rfl ⟨(Nat.le_of_ble_eq_true rfl), (Nat.le_of_ble_eq_true rfl)⟩ ⟨(Nat.le_of_ble_eq_true rfl), (Nat.le_of_ble_eq_true rfl)⟩ dX9_init_115 (okX7_init E (kL K) v64 h65) rfl (Nat.le_of_ble_eq_true rfl) rfl rfl (fun _u h66 eh66 => ?_)
  refine aw_aastore (pc := 118) C dX9_init_118 (fun h67 eh67 => ?_)
  refine aw_iinc (pc := 119) (v := 5) (L' := [(1, .int 5), (0, rf E a0)]) C dX9_init_119 0 rfl (by decide) (by decide) rfl ?_
  refine aw_goto (pc := 122) C 97 dX9_init_122 (by decide) ?_
  refine aw_iload_n (pc := 97) C dX9_init_97 rfl 0 rfl ?_
  refine aw_aload_n (pc := 98) C dX9_init_98 rfl 1 rfl ?_
  refine aw_getR (pc := 99) C fl_X9_62 dX9_init_99 (fun v68 ev68 => ?_)
  refine aw_arraylength (pc := 102) C dX9_init_102 (fun v69 ev69 => ?_)
  refine aw_icmp_ge (pc := 103) C 125 dX9_init_103 (by decide) (fun c78 => ?_) (fun c78 => ?_)
  · exact aw_none
  refine aw_aload_n (pc := 106) C dX9_init_106 rfl 1 rfl ?_
  refine aw_getR (pc := 107) C fl_X9_62 dX9_init_107 (fun v70 ev70 => ?_)
  refine aw_iload_n (pc := 110) C dX9_init_110 rfl 0 rfl ?_
  refine aw_new (pc := 111) C clX7 lk_X9_60 in_7 it_7 hE (Nat.le_of_ble_eq_true rfl) (Nat.le_of_ble_eq_true rfl) dX9_init_111 (fun v71 h72 ev71 eh72 => ?_)
  refine aw_dup (pc := 114) C rfl dX9_init_114 ?_
  refine aw_callINV (pc := 115) (R := rmX9_init) (As := []) (rest := [rf E v71, .int 5, rf E v70]) (st := [rf E v71, rf E v71, .int 5, rf E v70]) (c' := 60) (s' := 7872) C hE cal_X7_init ml_X9_66 rfl ⟨(Nat.le_of_ble_eq_true rfl), (Nat.le_of_ble_eq_true rfl)⟩ ⟨(Nat.le_of_ble_eq_true rfl), (Nat.le_of_ble_eq_true rfl)⟩ dX9_init_115 (okX7_init E (kL K) v71 h72) rfl (Nat.le_of_ble_eq_true rfl) rfl rfl (fun _u h73 eh73 => ?_)
  refine aw_aastore (pc := 118) C dX9_init_118 (fun h74 eh74 => ?_)
  refine aw_iinc (pc := 119) (v := 6) (L' := [(1, .int 6), (0, rf E a0)]) C dX9_init_119 0 rfl (by decide) (by decide) rfl ?_
  refine aw_goto (pc := 122) C 97 dX9_init_122 (by decide) ?_
  refine aw_iload_n (pc := 97) C dX9_init_97 rfl 0 rfl ?_
  refine aw_aload_n (pc := 98) C dX9_init_98 rfl 1 rfl ?_
  refine aw_getR (pc := 99) C fl_X9_62 dX9_init_99 (fun v75 ev75 => ?_)
  refine aw_arraylength (pc := 102) C dX9_init_102 (fun v76 ev76 => ?_)
  refine aw_icmp_ge (pc := 103) C 125 dX9_init_103 (by decide) (fun c77 => ?_) (fun c77 => ?_)
  · exact aw_return (pc := 125) C hr hz0 rfl dX9_init_125
  exact aw_none
def rmX9_between : Room := { frames := 0, cells := 0, slots := 0, locals := 0 }
set_option maxHeartbeats 4000000 in
set_option maxRecDepth 100000 in
theorem okX9_between (E : Ev) (l : Launch) (a0 : Int32) (a1 : Int32) (a2 : Int32) (h0 : Mem) : AMet E l yX9_between cX9_between 3 (some (.boolean)) rmX9_between [.int a0, .int a1, .int a2] h0 rvI (fX9_between a0 a1 a2 h0) := by
  refine am_intro (plainFor_of_name (by decide +kernel)) (Nat.le_of_ble_eq_true rfl) (fun K hKl C hr hnm hz0 => ?_)
  replace C : CxOK K E RX9 cX9_between 3 := C
  have hE : E.1 + 1 ≤ (kS K).heap.size := by omega
  unfold fX9_between
  show Aw K E _ _ _ _ _ 0 [(0, .int a0), (1, .int a1), (2, .int a2)] [] h0 _
  refine aw_iload_n (pc := 0) C dX9_between_0 rfl 0 rfl ?_
  refine aw_iload_n (pc := 1) C dX9_between_1 rfl 1 rfl ?_
  refine aw_icmp_lt (pc := 2) C 14 dX9_between_2 (by decide) (fun c2 => ?_) (fun c2 => ?_)
  · refine aw_iconst (pc := 14) (v := 0) C dX9_between_14 (by decide) ?_
    exact aw_ireturn (pc := 15) C hr rfl hz0 rfl dX9_between_15
  refine aw_iload_n (pc := 5) C dX9_between_5 rfl 0 rfl ?_
  refine aw_iload_n (pc := 6) C dX9_between_6 rfl 2 rfl ?_
  refine aw_icmp_gt (pc := 7) C 14 dX9_between_7 (by decide) (fun c1 => ?_) (fun c1 => ?_)
  · refine aw_iconst (pc := 14) (v := 0) C dX9_between_14 (by decide) ?_
    exact aw_ireturn (pc := 15) C hr rfl hz0 rfl dX9_between_15
  refine aw_iconst (pc := 10) (v := 1) C dX9_between_10 (by decide) ?_
  refine aw_goto (pc := 11) C 15 dX9_between_11 (by decide) ?_
  exact aw_ireturn (pc := 15) C hr rfl hz0 rfl dX9_between_15
def rmJ7_fill_53178 : Room := { frames := 0, cells := 0, slots := 0, locals := 0 }
set_option maxHeartbeats 4000000 in
set_option maxRecDepth 100000 in
theorem okJ7_fill_53178 (E : Ev) (l : Launch) (a0 : Nat) (a1 : Int32) (h0 : Mem) : AMet E l yJ7_fill_53178 cJ7_fill_53178 4 none rmJ7_fill_53178 [rf E a0, .int a1] h0 rvV (fJ7_fill_53178 a0 a1 h0) := by
  refine am_intro (plainFor_of_name (by decide +kernel)) (Nat.le_of_ble_eq_true rfl) (fun K hKl C hr hnm hz0 => ?_)
  replace C : CxOK K E RJ7 cJ7_fill_53178 4 := C
  have hE : E.1 + 1 ≤ (kS K).heap.size := by omega
  unfold fJ7_fill_53178
  show Aw K E _ _ _ _ _ 0 [(0, rf E a0), (1, .int a1)] [] h0 _
  refine aw_iconst (pc := 0) (v := 0) C dJ7_fill_53178_0 (by decide) ?_
  refine aw_istore_n (pc := 1) (L' := [(2, .int 0), (0, rf E a0), (1, .int a1)]) C dJ7_fill_53178_1 rfl (by decide) rfl ?_
  refine aw_aload_n (pc := 2) C dJ7_fill_53178_2 rfl 1 rfl ?_
  refine aw_arraylength (pc := 3) C dJ7_fill_53178_3 (fun v1 ev1 => ?_)
  refine aw_istore_n (pc := 4) (L' := [(3, .int v1), (2, .int 0), (0, rf E a0), (1, .int a1)]) C dJ7_fill_53178_4 rfl (by decide) rfl ?_
  refine aw_sub (L' := [(0, rf E a0), (1, .int a1), (2, .int 0), (3, .int v1)]) [2, 3, 1, 0] rfl ?_
  refine aw_loop (pc := 5) (σ := Int32 × Mem) (fun s => [(0, rf E a0), (1, .int a1), (2, .int s.1), (3, .int v1)]) (fun s => s.2) _ (fun k4 ih5 s => ?_) _ _
  obtain ⟨v2, h3⟩ := s
  show Aw K E _ _ _ _ _ 5 [(0, rf E a0), (1, .int a1), (2, .int v2), (3, .int v1)] [] h3 _
  refine aw_iload_n (pc := 5) C dJ7_fill_53178_5 rfl 2 rfl ?_
  refine aw_iload_n (pc := 6) C dJ7_fill_53178_6 rfl 3 rfl ?_
  refine aw_icmp_ge (pc := 7) C 20 dJ7_fill_53178_7 (by decide) (fun c8 => ?_) (fun c8 => ?_)
  · exact aw_return (pc := 20) C hr hz0 rfl dJ7_fill_53178_20
  refine aw_aload_n (pc := 10) C dJ7_fill_53178_10 rfl 0 rfl ?_
  refine aw_iload_n (pc := 11) C dJ7_fill_53178_11 rfl 2 rfl ?_
  refine aw_iload_n (pc := 12) C dJ7_fill_53178_12 rfl 1 rfl ?_
  refine aw_iastore (pc := 13) C dJ7_fill_53178_13 (fun h6 eh6 => ?_)
  refine aw_iincN (pc := 14) (L1 := [(0, rf E a0), (1, .int a1), (3, .int v1)]) (k := 1) C dJ7_fill_53178_14 2 rfl (by decide) (by decide) rfl (fun v7 ev7 => ?_)
  refine aw_goto (pc := 17) C 5 dJ7_fill_53178_17 (by decide) ?_
  exact aw_sub (L' := [(0, rf E a0), (1, .int a1), (2, .int v7), (3, .int v1)]) [1, 2, 0, 3] rfl (ih5 (v7, h6))
def rmX2_clear : Room := { frames := 1, cells := 0, slots := 0, locals := 23 }
set_option maxHeartbeats 4000000 in
set_option maxRecDepth 100000 in
theorem okX2_clear (E : Ev) (l : Launch) (a0 : Nat) (a1 : Int32) (h0 : Mem) : AMet E l yX2_clear cX2_clear 2 none rmX2_clear [rf E a0, .int a1] h0 rvV (fX2_clear a0 a1 h0) := by
  refine am_intro (plainFor_of_name (by decide +kernel)) (Nat.le_of_ble_eq_true rfl) (fun K hKl C hr hnm hz0 => ?_)
  replace C : CxOK K E RX2 cX2_clear 2 := C
  have hE : E.1 + 1 ≤ (kS K).heap.size := by omega
  unfold fX2_clear
  show Aw K E _ _ _ _ _ 0 [(0, rf E a0), (1, .int a1)] [] h0 _
  refine aw_aload_n (pc := 0) C dX2_clear_0 rfl 0 rfl ?_
  refine aw_iload_n (pc := 1) C dX2_clear_1 rfl 1 rfl ?_
  refine aw_putI (pc := 2) C fw_X2_9 rfl rfl dX2_clear_2 (fun h1 eh1 => ?_)
  refine aw_aload_n (pc := 5) C dX2_clear_5 rfl 0 rfl ?_
  refine aw_getR (pc := 6) C fl_X2_15 dX2_clear_6 (fun v2 ev2 => ?_)
  refine aw_iconst (pc := 9) (v := 0) C dX2_clear_9 (by decide) ?_
  refine aw_callSV (pc := 10) (R := rmX2_clear) (As := [rf E v2, .int 0]) (rest := []) (st := [.int 0, rf E v2]) (c' := 0) (s' := 0) C hE cal_J7_fill_53178 ml_X2_26 rfl ⟨(Nat.le_of_ble_eq_true rfl), (Nat.le_of_ble_eq_true rfl)⟩ ⟨(Nat.le_of_ble_eq_true rfl), (Nat.le_of_ble_eq_true rfl)⟩ dX2_clear_10 (okJ7_fill_53178 E (kL K) v2 0 h1) rfl (Nat.le_of_ble_eq_true rfl) rfl rfl (fun _u h3 eh3 => ?_)
  exact aw_return (pc := 13) C hr hz0 rfl dX2_clear_13
def rmX9_degree : Room := { frames := 2, cells := 0, slots := 0, locals := 44 }
set_option maxHeartbeats 4000000 in
set_option maxRecDepth 100000 in
theorem okX9_degree (E : Ev) (l : Launch) (a0 : Nat) (a1 : Int32) (h0 : Mem) : AMet E l yX9_degree cX9_degree 3 (some (.int)) rmX9_degree [rf E a0, .int a1] h0 rvI (fX9_degree a0 a1 h0) := by
  refine am_intro (plainFor_of_name (by decide +kernel)) (Nat.le_of_ble_eq_true rfl) (fun K hKl C hr hnm hz0 => ?_)
  replace C : CxOK K E RX9 cX9_degree 3 := C
  have hE : E.1 + 1 ≤ (kS K).heap.size := by omega
  unfold fX9_degree
  show Aw K E _ _ _ _ _ 0 [(0, rf E a0), (1, .int a1)] [] h0 _
  refine aw_iload_n (pc := 0) C dX9_degree_0 rfl 1 rfl ?_
  refine aw_iconst (pc := 1) (v := 2) C dX9_degree_1 (by decide) ?_
  refine aw_iconst (pc := 2) (v := 4) C dX9_degree_2 (by decide) ?_
  refine aw_callSI (pc := 3) (R := rmX9_degree) (As := [.int a1, .int 2, .int 4]) (rest := []) (st := [.int 4, .int 2, .int a1]) (c' := 0) (s' := 0) C hE cal_X9_between ml_X9_67 rfl ⟨(Nat.le_of_ble_eq_true rfl), (Nat.le_of_ble_eq_true rfl)⟩ ⟨(Nat.le_of_ble_eq_true rfl), (Nat.le_of_ble_eq_true rfl)⟩ dX9_degree_3 (okX9_between E (kL K) a1 2 4 h0) rfl (Nat.le_of_ble_eq_true rfl) rfl rfl (fun v2 h1 eh1 => ?_)
  refine aw_if_ne (pc := 6) C 12 dX9_degree_6 (by decide) (fun c11 => ?_) (fun c11 => ?_)
  · refine aw_bipush (pc := 9) (v := (-2)) C dX9_degree_9 (by decide) ?_
    exact aw_ireturn (pc := 11) C hr rfl hz0 rfl dX9_degree_11
  refine aw_aload_n (pc := 12) C dX9_degree_12 rfl 0 rfl ?_
  refine aw_getR (pc := 13) C fl_X9_12 dX9_degree_13 (fun v3 ev3 => ?_)
  refine aw_getR (pc := 16) C fl_X9_71 dX9_degree_16 (fun v4 ev4 => ?_)
  refine aw_getR (pc := 19) C fl_X9_74 dX9_degree_19 (fun v5 ev5 => ?_)
  refine aw_getI (pc := 22) C fl_X9_78 dX9_degree_22 (fun v6 ev6 => ?_)
  refine aw_istore_n (pc := 25) (L' := [(2, .int v6), (0, rf E a0), (1, .int a1)]) C dX9_degree_25 rfl (by decide) rfl ?_
  refine aw_aload_n (pc := 26) C dX9_degree_26 rfl 1 rfl ?_
  refine aw_getR (pc := 27) C fl_X9_12 dX9_degree_27 (fun v7 ev7 => ?_)
  refine aw_getR (pc := 30) C fl_X9_71 dX9_degree_30 (fun v8 ev8 => ?_)
  refine aw_getR (pc := 33) C fl_X9_74 dX9_degree_33 (fun v9 ev9 => ?_)
  refine aw_iload_n (pc := 36) C dX9_degree_36 rfl 2 rfl ?_
  refine aw_callVV (pc := 37) (R := rmX9_degree) (c := 2) (As := [.int a1]) (rest := []) (st := [.int a1, rf E v9]) (c' := 0) (s' := 0) C hE rfl (by decide) cal_X2_clear ml_X9_84 rfl ⟨(Nat.le_of_ble_eq_true rfl), (Nat.le_of_ble_eq_true rfl)⟩ ⟨(Nat.le_of_ble_eq_true rfl), (Nat.le_of_ble_eq_true rfl)⟩ dX9_degree_37 (okX2_clear E (kL K) v9 a1 h1) rfl (Nat.le_of_ble_eq_true rfl) rfl rfl (fun _u h10 eh10 => ?_)
  refine aw_iload_n (pc := 40) C dX9_degree_40 rfl 0 rfl ?_
  exact aw_ireturn (pc := 41) C hr rfl hz0 rfl dX9_degree_41
def rmX2_has : Room := { frames := 0, cells := 0, slots := 0, locals := 0 }
set_option maxHeartbeats 4000000 in
set_option maxRecDepth 100000 in
theorem okX2_has (E : Ev) (l : Launch) (a0 : Nat) (a1 : Int32) (h0 : Mem) : AMet E l yX2_has cX2_has 2 (some (.boolean)) rmX2_has [rf E a0, .int a1] h0 rvI (fX2_has a0 a1 h0) := by
  refine am_intro (plainFor_of_name (by decide +kernel)) (Nat.le_of_ble_eq_true rfl) (fun K hKl C hr hnm hz0 => ?_)
  replace C : CxOK K E RX2 cX2_has 2 := C
  have hE : E.1 + 1 ≤ (kS K).heap.size := by omega
  unfold fX2_has
  show Aw K E _ _ _ _ _ 0 [(0, rf E a0), (1, .int a1)] [] h0 _
  refine aw_iload_n (pc := 0) C dX2_has_0 rfl 1 rfl ?_
  refine aw_if_lt (pc := 1) C 25 dX2_has_1 (by decide) (fun c6 => ?_) (fun c6 => ?_)
  · refine aw_iconst (pc := 25) (v := 0) C dX2_has_25 (by decide) ?_
    exact aw_ireturn (pc := 26) C hr rfl hz0 rfl dX2_has_26
  refine aw_iload_n (pc := 4) C dX2_has_4 rfl 1 rfl ?_
  refine aw_aload_n (pc := 5) C dX2_has_5 rfl 0 rfl ?_
  refine aw_getI (pc := 6) C fl_X2_9 dX2_has_6 (fun v1 ev1 => ?_)
  refine aw_icmp_gt (pc := 9) C 25 dX2_has_9 (by decide) (fun c5 => ?_) (fun c5 => ?_)
  · refine aw_iconst (pc := 25) (v := 0) C dX2_has_25 (by decide) ?_
    exact aw_ireturn (pc := 26) C hr rfl hz0 rfl dX2_has_26
  refine aw_iload_n (pc := 12) C dX2_has_12 rfl 1 rfl ?_
  refine aw_aload_n (pc := 13) C dX2_has_13 rfl 0 rfl ?_
  refine aw_getR (pc := 14) C fl_X2_15 dX2_has_14 (fun v2 ev2 => ?_)
  refine aw_arraylength (pc := 17) C dX2_has_17 (fun v3 ev3 => ?_)
  refine aw_icmp_ge (pc := 18) C 25 dX2_has_18 (by decide) (fun c4 => ?_) (fun c4 => ?_)
  · refine aw_iconst (pc := 25) (v := 0) C dX2_has_25 (by decide) ?_
    exact aw_ireturn (pc := 26) C hr rfl hz0 rfl dX2_has_26
  refine aw_iconst (pc := 21) (v := 1) C dX2_has_21 (by decide) ?_
  refine aw_goto (pc := 22) C 26 dX2_has_22 (by decide) ?_
  exact aw_ireturn (pc := 26) C hr rfl hz0 rfl dX2_has_26
def rmX2_get : Room := { frames := 1, cells := 0, slots := 0, locals := 21 }
set_option maxHeartbeats 4000000 in
set_option maxRecDepth 100000 in
theorem okX2_get (E : Ev) (l : Launch) (a0 : Nat) (a1 : Int32) (h0 : Mem) : AMet E l yX2_get cX2_get 2 (some (.int)) rmX2_get [rf E a0, .int a1] h0 rvI (fX2_get a0 a1 h0) := by
  refine am_intro (plainFor_of_name (by decide +kernel)) (Nat.le_of_ble_eq_true rfl) (fun K hKl C hr hnm hz0 => ?_)
  replace C : CxOK K E RX2 cX2_get 2 := C
  have hE : E.1 + 1 ≤ (kS K).heap.size := by omega
  unfold fX2_get
  show Aw K E _ _ _ _ _ 0 [(0, rf E a0), (1, .int a1)] [] h0 _
  refine aw_aload_n (pc := 0) C dX2_get_0 rfl 0 rfl ?_
  refine aw_iload_n (pc := 1) C dX2_get_1 rfl 1 rfl ?_
  refine aw_callVI (pc := 2) (R := rmX2_get) (c := 2) (As := [.int a1]) (rest := []) (st := [.int a1, rf E a0]) (c' := 0) (s' := 0) C hE rfl (by decide) cal_X2_has ml_X2_38 rfl ⟨(Nat.le_of_ble_eq_true rfl), (Nat.le_of_ble_eq_true rfl)⟩ ⟨(Nat.le_of_ble_eq_true rfl), (Nat.le_of_ble_eq_true rfl)⟩ dX2_get_2 (okX2_has E (kL K) a0 a1 h0) rfl (Nat.le_of_ble_eq_true rfl) rfl rfl (fun v2 h1 eh1 => ?_)
  refine aw_if_eq (pc := 5) C 17 dX2_get_5 (by decide) (fun c5 => ?_) (fun c5 => ?_)
  · refine aw_iconst (pc := 17) (v := 0) C dX2_get_17 (by decide) ?_
    exact aw_ireturn (pc := 18) C hr rfl hz0 rfl dX2_get_18
  refine aw_aload_n (pc := 8) C dX2_get_8 rfl 0 rfl ?_
  refine aw_getR (pc := 9) C fl_X2_15 dX2_get_9 (fun v3 ev3 => ?_)
  refine aw_iload_n (pc := 12) C dX2_get_12 rfl 1 rfl ?_
  refine aw_iaload (pc := 13) C dX2_get_13 (fun v4 ev4 => ?_)
  refine aw_goto (pc := 14) C 18 dX2_get_14 (by decide) ?_
  exact aw_ireturn (pc := 18) C hr rfl hz0 rfl dX2_get_18
def rmX2_set : Room := { frames := 1, cells := 0, slots := 0, locals := 21 }
set_option maxHeartbeats 4000000 in
set_option maxRecDepth 100000 in
theorem okX2_set (E : Ev) (l : Launch) (a0 : Nat) (a1 : Int32) (a2 : Int32) (h0 : Mem) : AMet E l yX2_set cX2_set 3 none rmX2_set [rf E a0, .int a1, .int a2] h0 rvV (fX2_set a0 a1 a2 h0) := by
  refine am_intro (plainFor_of_name (by decide +kernel)) (Nat.le_of_ble_eq_true rfl) (fun K hKl C hr hnm hz0 => ?_)
  replace C : CxOK K E RX2 cX2_set 3 := C
  have hE : E.1 + 1 ≤ (kS K).heap.size := by omega
  unfold fX2_set
  show Aw K E _ _ _ _ _ 0 [(0, rf E a0), (1, .int a1), (2, .int a2)] [] h0 _
  refine aw_aload_n (pc := 0) C dX2_set_0 rfl 0 rfl ?_
  refine aw_iload_n (pc := 1) C dX2_set_1 rfl 1 rfl ?_
  refine aw_callVI (pc := 2) (R := rmX2_set) (c := 2) (As := [.int a1]) (rest := []) (st := [.int a1, rf E a0]) (c' := 0) (s' := 0) C hE rfl (by decide) cal_X2_has ml_X2_38 rfl ⟨(Nat.le_of_ble_eq_true rfl), (Nat.le_of_ble_eq_true rfl)⟩ ⟨(Nat.le_of_ble_eq_true rfl), (Nat.le_of_ble_eq_true rfl)⟩ dX2_set_2 (okX2_has E (kL K) a0 a1 h0) rfl (Nat.le_of_ble_eq_true rfl) rfl rfl (fun v2 h1 eh1 => ?_)
  refine aw_if_eq (pc := 5) C 15 dX2_set_5 (by decide) (fun c5 => ?_) (fun c5 => ?_)
  · exact aw_return (pc := 15) C hr hz0 rfl dX2_set_15
  refine aw_aload_n (pc := 8) C dX2_set_8 rfl 0 rfl ?_
  refine aw_getR (pc := 9) C fl_X2_15 dX2_set_9 (fun v3 ev3 => ?_)
  refine aw_iload_n (pc := 12) C dX2_set_12 rfl 1 rfl ?_
  refine aw_iload_n (pc := 13) C dX2_set_13 rfl 2 rfl ?_
  refine aw_iastore (pc := 14) C dX2_set_14 (fun h4 eh4 => ?_)
  exact aw_return (pc := 15) C hr hz0 rfl dX2_set_15
def rmX9_number : Room := { frames := 2, cells := 0, slots := 0, locals := 43 }
set_option maxHeartbeats 4000000 in
set_option maxRecDepth 100000 in
theorem okX9_number (E : Ev) (l : Launch) (a0 : Nat) (a1 : Int32) (a2 : Int32) (h0 : Mem) : AMet E l yX9_number cX9_number 5 (some (.int)) rmX9_number [rf E a0, .int a1, .int a2] h0 rvI (fX9_number a0 a1 a2 h0) := by
  refine am_intro (plainFor_of_name (by decide +kernel)) (Nat.le_of_ble_eq_true rfl) (fun K hKl C hr hnm hz0 => ?_)
  replace C : CxOK K E RX9 cX9_number 5 := C
  have hE : E.1 + 1 ≤ (kS K).heap.size := by omega
  unfold fX9_number
  show Aw K E _ _ _ _ _ 0 [(0, rf E a0), (1, .int a1), (2, .int a2)] [] h0 _
  refine aw_aload_n (pc := 0) C dX9_number_0 rfl 0 rfl ?_
  refine aw_getR (pc := 1) C fl_X9_12 dX9_number_1 (fun v1 ev1 => ?_)
  refine aw_getR (pc := 4) C fl_X9_71 dX9_number_4 (fun v2 ev2 => ?_)
  refine aw_getR (pc := 7) C fl_X9_74 dX9_number_7 (fun v3 ev3 => ?_)
  refine aw_astore_n (pc := 10) (L' := [(3, rf E v3), (0, rf E a0), (1, .int a1), (2, .int a2)]) C dX9_number_10 rfl (by decide) rfl ?_
  refine aw_aload_n (pc := 11) C dX9_number_11 rfl 0 rfl ?_
  refine aw_iload_n (pc := 12) C dX9_number_12 rfl 2 rfl ?_
  refine aw_callVI (pc := 13) (R := rmX9_number) (c := 2) (As := [.int a1]) (rest := []) (st := [.int a1, rf E v3]) (c' := 0) (s' := 0) C hE rfl (by decide) cal_X2_has ml_X9_88 rfl ⟨(Nat.le_of_ble_eq_true rfl), (Nat.le_of_ble_eq_true rfl)⟩ ⟨(Nat.le_of_ble_eq_true rfl), (Nat.le_of_ble_eq_true rfl)⟩ dX9_number_13 (okX2_has E (kL K) v3 a1 h0) rfl (Nat.le_of_ble_eq_true rfl) rfl rfl (fun v5 h4 eh4 => ?_)
  refine aw_if_ne (pc := 16) C 21 dX9_number_16 (by decide) (fun c12 => ?_) (fun c12 => ?_)
  · refine aw_iconst (pc := 19) (v := (-1)) C dX9_number_19 (by decide) ?_
    exact aw_ireturn (pc := 20) C hr rfl hz0 rfl dX9_number_20
  refine aw_iload_n (pc := 21) C dX9_number_21 rfl 3 rfl ?_
  refine aw_bipush (pc := 22) (v := (-99)) C dX9_number_22 (by decide) ?_
  refine aw_bipush (pc := 24) (v := 99) C dX9_number_24 (by decide) ?_
  refine aw_callSI (pc := 26) (R := rmX9_number) (As := [.int a2, .int (-99), .int 99]) (rest := []) (st := [.int 99, .int (-99), .int a2]) (c' := 0) (s' := 0) C hE cal_X9_between ml_X9_67 rfl ⟨(Nat.le_of_ble_eq_true rfl), (Nat.le_of_ble_eq_true rfl)⟩ ⟨(Nat.le_of_ble_eq_true rfl), (Nat.le_of_ble_eq_true rfl)⟩ dX9_number_26 (okX9_between E (kL K) a2 (-99) 99 h4) rfl (Nat.le_of_ble_eq_true rfl) rfl rfl (fun v7 h6 eh6 => ?_)
  refine aw_if_ne (pc := 29) C 35 dX9_number_29 (by decide) (fun c11 => ?_) (fun c11 => ?_)
  · refine aw_bipush (pc := 32) (v := (-2)) C dX9_number_32 (by decide) ?_
    exact aw_ireturn (pc := 34) C hr rfl hz0 rfl dX9_number_34
  refine aw_aload_n (pc := 35) C dX9_number_35 rfl 0 rfl ?_
  refine aw_iload_n (pc := 36) C dX9_number_36 rfl 2 rfl ?_
  refine aw_callVI (pc := 37) (R := rmX9_number) (c := 2) (As := [.int a1]) (rest := []) (st := [.int a1, rf E v3]) (c' := 0) (s' := 0) C hE rfl (by decide) cal_X2_get ml_X9_92 rfl ⟨(Nat.le_of_ble_eq_true rfl), (Nat.le_of_ble_eq_true rfl)⟩ ⟨(Nat.le_of_ble_eq_true rfl), (Nat.le_of_ble_eq_true rfl)⟩ dX9_number_37 (okX2_get E (kL K) v3 a1 h6) rfl (Nat.le_of_ble_eq_true rfl) rfl rfl (fun v9 h8 eh8 => ?_)
  refine aw_istore (pc := 40) (L' := [(4, .int v9), (3, rf E v3), (0, rf E a0), (1, .int a1), (2, .int a2)]) C dX9_number_40 (by decide) rfl ?_
  refine aw_aload_n (pc := 42) C dX9_number_42 rfl 1 rfl ?_
  refine aw_iload_n (pc := 43) C dX9_number_43 rfl 3 rfl ?_
  refine aw_iload_n (pc := 44) C dX9_number_44 rfl 4 rfl ?_
  refine aw_callVV (pc := 45) (R := rmX9_number) (c := 2) (As := [.int a1, .int a2]) (rest := []) (st := [.int a2, .int a1, rf E v3]) (c' := 0) (s' := 0) C hE rfl (by decide) cal_X2_set ml_X9_96 rfl ⟨(Nat.le_of_ble_eq_true rfl), (Nat.le_of_ble_eq_true rfl)⟩ ⟨(Nat.le_of_ble_eq_true rfl), (Nat.le_of_ble_eq_true rfl)⟩ dX9_number_45 (okX2_set E (kL K) v3 a1 a2 h8) rfl (Nat.le_of_ble_eq_true rfl) rfl rfl (fun _u h10 eh10 => ?_)
  refine aw_iload (pc := 48) C dX9_number_48 0 rfl ?_
  refine aw_bipush (pc := 50) (v := 100) C dX9_number_50 (by decide) ?_
  refine aw_iadd (pc := 52) C dX9_number_52 ?_
  exact aw_ireturn (pc := 53) C hr rfl hz0 rfl dX9_number_53
def rmX9_equal : Room := { frames := 1, cells := 0, slots := 0, locals := 22 }
set_option maxHeartbeats 4000000 in
set_option maxRecDepth 100000 in
theorem okX9_equal (E : Ev) (l : Launch) (a0 : Nat) (a1 : Int32) (h0 : Mem) : AMet E l yX9_equal cX9_equal 3 (some (.int)) rmX9_equal [rf E a0, .int a1] h0 rvI (fX9_equal a0 a1 h0) := by
  refine am_intro (plainFor_of_name (by decide +kernel)) (Nat.le_of_ble_eq_true rfl) (fun K hKl C hr hnm hz0 => ?_)
  replace C : CxOK K E RX9 cX9_equal 3 := C
  have hE : E.1 + 1 ≤ (kS K).heap.size := by omega
  unfold fX9_equal
  show Aw K E _ _ _ _ _ 0 [(0, rf E a0), (1, .int a1)] [] h0 _
  refine aw_iload_n (pc := 0) C dX9_equal_0 rfl 1 rfl ?_
  refine aw_sipush (pc := 1) (v := (-9999)) C dX9_equal_1 (by decide) ?_
  refine aw_sipush (pc := 4) (v := 9999) C dX9_equal_4 (by decide) ?_
  refine aw_callSI (pc := 7) (R := rmX9_equal) (As := [.int a1, .int (-9999), .int 9999]) (rest := []) (st := [.int 9999, .int (-9999), .int a1]) (c' := 0) (s' := 0) C hE cal_X9_between ml_X9_67 rfl ⟨(Nat.le_of_ble_eq_true rfl), (Nat.le_of_ble_eq_true rfl)⟩ ⟨(Nat.le_of_ble_eq_true rfl), (Nat.le_of_ble_eq_true rfl)⟩ dX9_equal_7 (okX9_between E (kL K) a1 (-9999) 9999 h0) rfl (Nat.le_of_ble_eq_true rfl) rfl rfl (fun v2 h1 eh1 => ?_)
  refine aw_if_ne (pc := 10) C 16 dX9_equal_10 (by decide) (fun c9 => ?_) (fun c9 => ?_)
  · refine aw_bipush (pc := 13) (v := (-2)) C dX9_equal_13 (by decide) ?_
    exact aw_ireturn (pc := 15) C hr rfl hz0 rfl dX9_equal_15
  refine aw_aload_n (pc := 16) C dX9_equal_16 rfl 0 rfl ?_
  refine aw_getR (pc := 17) C fl_X9_12 dX9_equal_17 (fun v3 ev3 => ?_)
  refine aw_getR (pc := 20) C fl_X9_71 dX9_equal_20 (fun v4 ev4 => ?_)
  refine aw_getI (pc := 23) C fl_X9_100 dX9_equal_23 (fun v5 ev5 => ?_)
  refine aw_istore_n (pc := 26) (L' := [(2, .int v5), (0, rf E a0), (1, .int a1)]) C dX9_equal_26 rfl (by decide) rfl ?_
  refine aw_aload_n (pc := 27) C dX9_equal_27 rfl 1 rfl ?_
  refine aw_getR (pc := 28) C fl_X9_12 dX9_equal_28 (fun v6 ev6 => ?_)
  refine aw_getR (pc := 31) C fl_X9_71 dX9_equal_31 (fun v7 ev7 => ?_)
  refine aw_iload_n (pc := 34) C dX9_equal_34 rfl 2 rfl ?_
  refine aw_putI (pc := 35) C fw_X9_100 rfl rfl dX9_equal_35 (fun h8 eh8 => ?_)
  refine aw_iload_n (pc := 38) C dX9_equal_38 rfl 0 rfl ?_
  refine aw_sipush (pc := 39) (v := 10000) C dX9_equal_39 (by decide) ?_
  refine aw_iadd (pc := 42) C dX9_equal_42 ?_
  exact aw_ireturn (pc := 43) C hr rfl hz0 rfl dX9_equal_43
def rmX9_window : Room := { frames := 1, cells := 0, slots := 0, locals := 22 }
set_option maxHeartbeats 4000000 in
set_option maxRecDepth 100000 in
theorem okX9_window (E : Ev) (l : Launch) (a0 : Nat) (a1 : Int32) (h0 : Mem) : AMet E l yX9_window cX9_window 3 (some (.int)) rmX9_window [rf E a0, .int a1] h0 rvI (fX9_window a0 a1 h0) := by
  refine am_intro (plainFor_of_name (by decide +kernel)) (Nat.le_of_ble_eq_true rfl) (fun K hKl C hr hnm hz0 => ?_)
  replace C : CxOK K E RX9 cX9_window 3 := C
  have hE : E.1 + 1 ≤ (kS K).heap.size := by omega
  unfold fX9_window
  show Aw K E _ _ _ _ _ 0 [(0, rf E a0), (1, .int a1)] [] h0 _
  refine aw_iload_n (pc := 0) C dX9_window_0 rfl 1 rfl ?_
  refine aw_iconst (pc := 1) (v := 1) C dX9_window_1 (by decide) ?_
  refine aw_bipush (pc := 2) (v := 40) C dX9_window_2 (by decide) ?_
  refine aw_callSI (pc := 4) (R := rmX9_window) (As := [.int a1, .int 1, .int 40]) (rest := []) (st := [.int 40, .int 1, .int a1]) (c' := 0) (s' := 0) C hE cal_X9_between ml_X9_67 rfl ⟨(Nat.le_of_ble_eq_true rfl), (Nat.le_of_ble_eq_true rfl)⟩ ⟨(Nat.le_of_ble_eq_true rfl), (Nat.le_of_ble_eq_true rfl)⟩ dX9_window_4 (okX9_between E (kL K) a1 1 40 h0) rfl (Nat.le_of_ble_eq_true rfl) rfl rfl (fun v2 h1 eh1 => ?_)
  refine aw_if_ne (pc := 7) C 13 dX9_window_7 (by decide) (fun c9 => ?_) (fun c9 => ?_)
  · refine aw_bipush (pc := 10) (v := (-2)) C dX9_window_10 (by decide) ?_
    exact aw_ireturn (pc := 12) C hr rfl hz0 rfl dX9_window_12
  refine aw_aload_n (pc := 13) C dX9_window_13 rfl 0 rfl ?_
  refine aw_getR (pc := 14) C fl_X9_12 dX9_window_14 (fun v3 ev3 => ?_)
  refine aw_getR (pc := 17) C fl_X9_71 dX9_window_17 (fun v4 ev4 => ?_)
  refine aw_getI (pc := 20) C fl_X9_103 dX9_window_20 (fun v5 ev5 => ?_)
  refine aw_istore_n (pc := 23) (L' := [(2, .int v5), (0, rf E a0), (1, .int a1)]) C dX9_window_23 rfl (by decide) rfl ?_
  refine aw_aload_n (pc := 24) C dX9_window_24 rfl 1 rfl ?_
  refine aw_getR (pc := 25) C fl_X9_12 dX9_window_25 (fun v6 ev6 => ?_)
  refine aw_getR (pc := 28) C fl_X9_71 dX9_window_28 (fun v7 ev7 => ?_)
  refine aw_iload_n (pc := 31) C dX9_window_31 rfl 2 rfl ?_
  refine aw_putI (pc := 32) C fw_X9_103 rfl rfl dX9_window_32 (fun h8 eh8 => ?_)
  refine aw_iload_n (pc := 35) C dX9_window_35 rfl 0 rfl ?_
  exact aw_ireturn (pc := 36) C hr rfl hz0 rfl dX9_window_36
