def rmX9_after : Room := { frames := 5, cells := 0, slots := 0, locals := 144 }
set_option maxHeartbeats 4000000 in
set_option maxRecDepth 100000 in
theorem okX9_after (E : Ev) (l : Launch) (a0 : Nat) (a1 : Int32) (h0 : Mem) : AMet E l yX9_after cX9_after 2 (some (.int)) rmX9_after [rf E a0, .int a1] h0 rvI (fX9_after a0 a1 h0) := by
  refine am_intro (plainFor_of_name (by decide +kernel)) (Nat.le_of_ble_eq_true rfl) (fun K hKl C hr hnm hz0 => ?_)
  replace C : CxOK K E RX9 cX9_after 2 := C
  have hE : E.1 + 1 ≤ (kS K).heap.size := by omega
  unfold fX9_after
  show Aw K E _ _ _ _ _ 0 [(0, rf E a0), (1, .int a1)] [] h0 _
  refine aw_iload_n (pc := 0) C dX9_after_0 rfl 1 rfl ?_
  refine aw_iconst (pc := 1) (v := 0) C dX9_after_1 (by decide) ?_
  refine aw_iconst (pc := 2) (v := 2) C dX9_after_2 (by decide) ?_
  refine aw_callSI (pc := 3) (As := [.int a1, .int 0, .int 2]) (rest := []) (c' := 0) (s' := 0) C hE cal_X9_between ml_X9_67 rfl ⟨(Nat.le_of_ble_eq_true rfl), (Nat.le_of_ble_eq_true rfl)⟩ ⟨(Nat.le_of_ble_eq_true rfl), (Nat.le_of_ble_eq_true rfl)⟩ dX9_after_3 (okX9_between E (kL K) a1 0 2 h0) rfl (Nat.le_of_ble_eq_true rfl) rfl rfl (fun v2 h1 eh1 => ?_)
  refine aw_if_ne (pc := 6) C 11 dX9_after_6 (by decide) (fun c18 => ?_) (fun c18 => ?_)
  · refine aw_iconst (pc := 9) (v := (-1)) C dX9_after_9 (by decide) ?_
    exact aw_ireturn (pc := 10) C hr rfl hz0 rfl dX9_after_10
  refine aw_aload_n (pc := 11) C dX9_after_11 rfl 0 rfl ?_
  refine aw_callVV (pc := 12) (c := 9) (As := []) (rest := []) (c' := 0) (s' := 0) C hE rfl (by decide) cal_X9_tryEvents ml_X9_247 rfl ⟨(Nat.le_of_ble_eq_true rfl), (Nat.le_of_ble_eq_true rfl)⟩ ⟨(Nat.le_of_ble_eq_true rfl), (Nat.le_of_ble_eq_true rfl)⟩ dX9_after_12 (okX9_tryEvents E (kL K) a0 h1) rfl (Nat.le_of_ble_eq_true rfl) rfl rfl (fun _u h3 eh3 => ?_)
  refine aw_iload_n (pc := 15) C dX9_after_15 rfl 1 rfl ?_
  refine aw_if_ne (pc := 16) C 27 dX9_after_16 (by decide) (fun c17 => ?_) (fun c17 => ?_)
  · refine aw_aload_n (pc := 19) C dX9_after_19 rfl 0 rfl ?_
    refine aw_getR (pc := 20) C fl_X9_28 dX9_after_20 (fun v4 ev4 => ?_)
    refine aw_callVI (pc := 23) (c := 1) (As := []) (rest := []) (c' := 0) (s' := 0) C hE rfl (by decide) cal_X1_howManyAnswers ml_X9_250 rfl ⟨(Nat.le_of_ble_eq_true rfl), (Nat.le_of_ble_eq_true rfl)⟩ ⟨(Nat.le_of_ble_eq_true rfl), (Nat.le_of_ble_eq_true rfl)⟩ dX9_after_23 (okX1_howManyAnswers E (kL K) v4 h3) rfl (Nat.le_of_ble_eq_true rfl) rfl rfl (fun v6 h5 eh5 => ?_)
    exact aw_ireturn (pc := 26) C hr rfl hz0 rfl dX9_after_26
  refine aw_iload_n (pc := 27) C dX9_after_27 rfl 1 rfl ?_
  refine aw_iconst (pc := 28) (v := 1) C dX9_after_28 (by decide) ?_
  refine aw_icmp_ne (pc := 29) C 40 dX9_after_29 (by decide) (fun c16 => ?_) (fun c16 => ?_)
  · refine aw_aload_n (pc := 32) C dX9_after_32 rfl 0 rfl ?_
    refine aw_getR (pc := 33) C fl_X9_28 dX9_after_33 (fun v7 ev7 => ?_)
    refine aw_callVI (pc := 36) (c := 1) (As := []) (rest := []) (c' := 0) (s' := 0) C hE rfl (by decide) cal_X1_firstBar ml_X9_196 rfl ⟨(Nat.le_of_ble_eq_true rfl), (Nat.le_of_ble_eq_true rfl)⟩ ⟨(Nat.le_of_ble_eq_true rfl), (Nat.le_of_ble_eq_true rfl)⟩ dX9_after_36 (okX1_firstBar E (kL K) v7 h3) rfl (Nat.le_of_ble_eq_true rfl) rfl rfl (fun v9 h8 eh8 => ?_)
    exact aw_ireturn (pc := 39) C hr rfl hz0 rfl dX9_after_39
  refine aw_aload_n (pc := 40) C dX9_after_40 rfl 0 rfl ?_
  refine aw_getR (pc := 41) C fl_X9_42 dX9_after_41 (fun v10 ev10 => ?_)
  refine aw_aload_n (pc := 44) C dX9_after_44 rfl 0 rfl ?_
  refine aw_getR (pc := 45) C fl_X9_28 dX9_after_45 (fun v11 ev11 => ?_)
  refine aw_getR (pc := 48) C fl_X9_74 dX9_after_48 (fun v12 ev12 => ?_)
  refine aw_callVV (pc := 51) (c := 8) (As := [rf E v12]) (rest := []) (c' := 0) (s' := 0) C hE rfl (by decide) cal_X8_look ml_X9_253 rfl ⟨(Nat.le_of_ble_eq_true rfl), (Nat.le_of_ble_eq_true rfl)⟩ ⟨(Nat.le_of_ble_eq_true rfl), (Nat.le_of_ble_eq_true rfl)⟩ dX9_after_51 (okX8_look E (kL K) v10 v12 h3) rfl (Nat.le_of_ble_eq_true rfl) rfl rfl (fun _u h13 eh13 => ?_)
  refine aw_aload_n (pc := 54) C dX9_after_54 rfl 0 rfl ?_
  refine aw_getR (pc := 55) C fl_X9_42 dX9_after_55 (fun v14 ev14 => ?_)
  refine aw_getI (pc := 58) C fl_X9_148 dX9_after_58 (fun v15 ev15 => ?_)
  exact aw_ireturn (pc := 61) C hr rfl hz0 rfl dX9_after_61
def rmJ9_min_f86c9 : Room := { frames := 0, cells := 0, slots := 0, locals := 0 }
set_option maxHeartbeats 4000000 in
set_option maxRecDepth 100000 in
theorem okJ9_min_f86c9 (E : Ev) (l : Launch) (a0 : Int64) (a2 : Int64) (h0 : Mem) : AMet E l yJ9_min_f86c9 cJ9_min_f86c9 4 (some (.long)) rmJ9_min_f86c9 [.long a0, .long a2] h0 rvJ (fJ9_min_f86c9 a0 a2 h0) := by
  refine am_intro (mathPlain rfl rfl) (Nat.le_of_ble_eq_true rfl) (fun K hKl C hr hnm hz0 => ?_)
  replace C : CxOK K E RJ9 cJ9_min_f86c9 4 := C
  have hE : E.1 + 1 ≤ (kS K).heap.size := by omega
  unfold fJ9_min_f86c9
  show Aw K E _ _ _ _ _ 0 [(0, .long a0), (2, .long a2)] [] h0 _
  refine aw_lload_n (pc := 0) C dJ9_min_f86c9_0 rfl 0 rfl ?_
  refine aw_lload_n (pc := 1) C dJ9_min_f86c9_1 rfl 1 rfl ?_
  refine aw_lcmp (pc := 2) C dJ9_min_f86c9_2 ?_
  refine aw_if_gt (pc := 3) C 10 dJ9_min_f86c9_3 (by decide) (fun c1 => ?_) (fun c1 => ?_)
  · refine aw_lload_n (pc := 10) C dJ9_min_f86c9_10 rfl 1 rfl ?_
    exact aw_lreturn (pc := 11) C hr hz0 rfl dJ9_min_f86c9_11
  refine aw_lload_n (pc := 6) C dJ9_min_f86c9_6 rfl 0 rfl ?_
  refine aw_goto (pc := 7) C 11 dJ9_min_f86c9_7 (by decide) ?_
  exact aw_lreturn (pc := 11) C hr hz0 rfl dJ9_min_f86c9_11
def rmX9_book : Room := { frames := 1, cells := 0, slots := 0, locals := 24 }
set_option maxHeartbeats 4000000 in
set_option maxRecDepth 100000 in
theorem okX9_book (E : Ev) (l : Launch) (a0 : Nat) (a1 : Int32) (a2 : Int32) (h0 : Mem) : AMet E l yX9_book cX9_book 3 (some (.int)) rmX9_book [rf E a0, .int a1, .int a2] h0 rvI (fX9_book a0 a1 a2 h0) := by
  refine am_intro (plainFor_of_name (by decide +kernel)) (Nat.le_of_ble_eq_true rfl) (fun K hKl C hr hnm hz0 => ?_)
  replace C : CxOK K E RX9 cX9_book 3 := C
  have hE : E.1 + 1 ≤ (kS K).heap.size := by omega
  unfold fX9_book
  show Aw K E _ _ _ _ _ 0 [(0, rf E a0), (1, .int a1), (2, .int a2)] [] h0 _
  refine aw_iload_n (pc := 0) C dX9_book_0 rfl 1 rfl ?_
  refine aw_iconst (pc := 1) (v := (-1)) C dX9_book_1 (by decide) ?_
  refine aw_icmp_ne (pc := 2) C 16 dX9_book_2 (by decide) (fun c18 => ?_) (fun c18 => ?_)
  · refine aw_aload_n (pc := 5) C dX9_book_5 rfl 0 rfl ?_
    refine aw_getR (pc := 6) C fl_X9_12 dX9_book_6 (fun v1 ev1 => ?_)
    refine aw_getR (pc := 9) C fl_X9_256 dX9_book_9 (fun v2 ev2 => ?_)
    refine aw_callVI (pc := 12) (c := 4) (As := []) (rest := []) (c' := 0) (s' := 0) C hE rfl (by decide) cal_X4_empty ml_X9_216 rfl ⟨(Nat.le_of_ble_eq_true rfl), (Nat.le_of_ble_eq_true rfl)⟩ ⟨(Nat.le_of_ble_eq_true rfl), (Nat.le_of_ble_eq_true rfl)⟩ dX9_book_12 (okX4_empty E (kL K) v2 h0) rfl (Nat.le_of_ble_eq_true rfl) rfl rfl (fun v4 h3 eh3 => ?_)
    exact aw_ireturn (pc := 15) C hr rfl hz0 rfl dX9_book_15
  refine aw_aload_n (pc := 16) C dX9_book_16 rfl 0 rfl ?_
  refine aw_getR (pc := 17) C fl_X9_12 dX9_book_17 (fun v5 ev5 => ?_)
  refine aw_getR (pc := 20) C fl_X9_71 dX9_book_20 (fun v6 ev6 => ?_)
  refine aw_getR (pc := 23) C fl_X9_74 dX9_book_23 (fun v7 ev7 => ?_)
  refine aw_iload_n (pc := 26) C dX9_book_26 rfl 1 rfl ?_
  refine aw_callVI (pc := 27) (c := 2) (As := [.int a1]) (rest := []) (c' := 0) (s' := 0) C hE rfl (by decide) cal_X2_has ml_X9_88 rfl ⟨(Nat.le_of_ble_eq_true rfl), (Nat.le_of_ble_eq_true rfl)⟩ ⟨(Nat.le_of_ble_eq_true rfl), (Nat.le_of_ble_eq_true rfl)⟩ dX9_book_27 (okX2_has E (kL K) v7 a1 h0) rfl (Nat.le_of_ble_eq_true rfl) rfl rfl (fun v9 h8 eh8 => ?_)
  refine aw_if_ne (pc := 30) C 35 dX9_book_30 (by decide) (fun c17 => ?_) (fun c17 => ?_)
  · refine aw_iconst (pc := 33) (v := (-1)) C dX9_book_33 (by decide) ?_
    exact aw_ireturn (pc := 34) C hr rfl hz0 rfl dX9_book_34
  refine aw_iload_n (pc := 35) C dX9_book_35 rfl 2 rfl ?_
  refine aw_bipush (pc := 36) (v := (-99)) C dX9_book_36 (by decide) ?_
  refine aw_bipush (pc := 38) (v := 99) C dX9_book_38 (by decide) ?_
  refine aw_callSI (pc := 40) (As := [.int a2, .int (-99), .int 99]) (rest := []) (c' := 0) (s' := 0) C hE cal_X9_between ml_X9_67 rfl ⟨(Nat.le_of_ble_eq_true rfl), (Nat.le_of_ble_eq_true rfl)⟩ ⟨(Nat.le_of_ble_eq_true rfl), (Nat.le_of_ble_eq_true rfl)⟩ dX9_book_40 (okX9_between E (kL K) a2 (-99) 99 h8) rfl (Nat.le_of_ble_eq_true rfl) rfl rfl (fun v11 h10 eh10 => ?_)
  refine aw_if_ne (pc := 43) C 49 dX9_book_43 (by decide) (fun c16 => ?_) (fun c16 => ?_)
  · refine aw_bipush (pc := 46) (v := (-2)) C dX9_book_46 (by decide) ?_
    exact aw_ireturn (pc := 48) C hr rfl hz0 rfl dX9_book_48
  refine aw_aload_n (pc := 49) C dX9_book_49 rfl 0 rfl ?_
  refine aw_getR (pc := 50) C fl_X9_12 dX9_book_50 (fun v12 ev12 => ?_)
  refine aw_getR (pc := 53) C fl_X9_256 dX9_book_53 (fun v13 ev13 => ?_)
  refine aw_iload_n (pc := 56) C dX9_book_56 rfl 1 rfl ?_
  refine aw_iload_n (pc := 57) C dX9_book_57 rfl 2 rfl ?_
  refine aw_iconst (pc := 58) (v := 0) C dX9_book_58 (by decide) ?_
  refine aw_callVI (pc := 59) (c := 4) (As := [.int a1, .int a2, .int 0]) (rest := []) (c' := 0) (s' := 0) C hE rfl (by decide) cal_X4_add ml_X9_219 rfl ⟨(Nat.le_of_ble_eq_true rfl), (Nat.le_of_ble_eq_true rfl)⟩ ⟨(Nat.le_of_ble_eq_true rfl), (Nat.le_of_ble_eq_true rfl)⟩ dX9_book_59 (okX4_add E (kL K) v13 a1 a2 0 h10) rfl (Nat.le_of_ble_eq_true rfl) rfl rfl (fun v15 h14 eh14 => ?_)
  exact aw_ireturn (pc := 62) C hr rfl hz0 rfl dX9_book_62
def rmX9_looked : Room := { frames := 2, cells := 0, slots := 0, locals := 44 }
set_option maxHeartbeats 4000000 in
set_option maxRecDepth 100000 in
theorem okX9_looked (E : Ev) (l : Launch) (a0 : Nat) (h0 : Mem) : AMet E l yX9_looked cX9_looked 4 (some (.int)) rmX9_looked [rf E a0] h0 rvI (fX9_looked a0 h0) := by
  refine am_intro (plainFor_of_name (by decide +kernel)) (Nat.le_of_ble_eq_true rfl) (fun K hKl C hr hnm hz0 => ?_)
  replace C : CxOK K E RX9 cX9_looked 4 := C
  have hE : E.1 + 1 ≤ (kS K).heap.size := by omega
  unfold fX9_looked
  show Aw K E _ _ _ _ _ 0 [(0, rf E a0)] [] h0 _
  refine aw_aload_n (pc := 0) C dX9_looked_0 rfl 0 rfl ?_
  refine aw_getR (pc := 1) C fl_X9_12 dX9_looked_1 (fun v1 ev1 => ?_)
  refine aw_getR (pc := 4) C fl_X9_71 dX9_looked_4 (fun v2 ev2 => ?_)
  refine aw_getR (pc := 7) C fl_X9_74 dX9_looked_7 (fun v3 ev3 => ?_)
  refine aw_astore_n (pc := 10) (L' := [(1, rf E v3), (0, rf E a0)]) C dX9_looked_10 rfl (by decide) rfl ?_
  refine aw_iconst (pc := 11) (v := 0) C dX9_looked_11 (by decide) ?_
  refine aw_istore_n (pc := 12) (L' := [(2, .int 0), (1, rf E v3), (0, rf E a0)]) C dX9_looked_12 rfl (by decide) rfl ?_
  refine aw_sub (L' := [(0, rf E a0), (1, rf E v3), (2, .int 0)]) [2, 1, 0] rfl ?_
  refine aw_loop (pc := 13) (σ := Int32 × Mem) (fun s => [(0, rf E a0), (1, rf E v3), (2, .int s.1)]) (fun s => s.2) _ (fun k6 ih7 s => ?_) _ _
  obtain ⟨v4, h5⟩ := s
  show Aw K E _ _ _ _ _ 13 [(0, rf E a0), (1, rf E v3), (2, .int v4)] [] h5 _
  refine aw_iload_n (pc := 13) C dX9_looked_13 rfl 2 rfl ?_
  refine aw_aload_n (pc := 14) C dX9_looked_14 rfl 0 rfl ?_
  refine aw_getR (pc := 15) C fl_X9_12 dX9_looked_15 (fun v8 ev8 => ?_)
  refine aw_getR (pc := 18) C fl_X9_256 dX9_looked_18 (fun v9 ev9 => ?_)
  refine aw_getI (pc := 21) C fl_X9_133 dX9_looked_21 (fun v10 ev10 => ?_)
  refine aw_icmp_ge (pc := 24) C 74 dX9_looked_24 (by decide) (fun c26 => ?_) (fun c26 => ?_)
  · refine aw_bipush (pc := 74) (v := (-5)) C dX9_looked_74 (by decide) ?_
    exact aw_ireturn (pc := 76) C hr rfl hz0 rfl dX9_looked_76
  refine aw_aload_n (pc := 27) C dX9_looked_27 rfl 0 rfl ?_
  refine aw_getR (pc := 28) C fl_X9_12 dX9_looked_28 (fun v11 ev11 => ?_)
  refine aw_getR (pc := 31) C fl_X9_256 dX9_looked_31 (fun v12 ev12 => ?_)
  refine aw_iload_n (pc := 34) C dX9_looked_34 rfl 2 rfl ?_
  refine aw_callVI (pc := 35) (c := 4) (As := [.int v4]) (rest := []) (c' := 0) (s' := 0) C hE rfl (by decide) cal_X4_first ml_X9_259 rfl ⟨(Nat.le_of_ble_eq_true rfl), (Nat.le_of_ble_eq_true rfl)⟩ ⟨(Nat.le_of_ble_eq_true rfl), (Nat.le_of_ble_eq_true rfl)⟩ dX9_looked_35 (okX4_first E (kL K) v12 v4 h5) rfl (Nat.le_of_ble_eq_true rfl) rfl rfl (fun v14 h13 eh13 => ?_)
  refine aw_istore_n (pc := 38) (L' := [(3, .int v14), (0, rf E a0), (1, rf E v3), (2, .int v4)]) C dX9_looked_38 rfl (by decide) rfl ?_
  refine aw_aload_n (pc := 39) C dX9_looked_39 rfl 2 rfl ?_
  refine aw_iload_n (pc := 40) C dX9_looked_40 rfl 0 rfl ?_
  refine aw_callVI (pc := 41) (c := 2) (As := [.int v14]) (rest := []) (c' := 0) (s' := 0) C hE rfl (by decide) cal_X2_has ml_X9_88 rfl ⟨(Nat.le_of_ble_eq_true rfl), (Nat.le_of_ble_eq_true rfl)⟩ ⟨(Nat.le_of_ble_eq_true rfl), (Nat.le_of_ble_eq_true rfl)⟩ dX9_looked_41 (okX2_has E (kL K) v3 v14 h13) rfl (Nat.le_of_ble_eq_true rfl) rfl rfl (fun v16 h15 eh15 => ?_)
  refine aw_if_eq (pc := 44) C 66 dX9_looked_44 (by decide) (fun c25 => ?_) (fun c25 => ?_)
  · refine aw_iload_n (pc := 66) C dX9_looked_66 rfl 3 rfl ?_
    exact aw_ireturn (pc := 67) C hr rfl hz0 rfl dX9_looked_67
  refine aw_aload_n (pc := 47) C dX9_looked_47 rfl 2 rfl ?_
  refine aw_iload_n (pc := 48) C dX9_looked_48 rfl 0 rfl ?_
  refine aw_callVI (pc := 49) (c := 2) (As := [.int v14]) (rest := []) (c' := 0) (s' := 0) C hE rfl (by decide) cal_X2_get ml_X9_92 rfl ⟨(Nat.le_of_ble_eq_true rfl), (Nat.le_of_ble_eq_true rfl)⟩ ⟨(Nat.le_of_ble_eq_true rfl), (Nat.le_of_ble_eq_true rfl)⟩ dX9_looked_49 (okX2_get E (kL K) v3 v14 h15) rfl (Nat.le_of_ble_eq_true rfl) rfl rfl (fun v18 h17 eh17 => ?_)
  refine aw_aload_n (pc := 52) C dX9_looked_52 rfl 1 rfl ?_
  refine aw_getR (pc := 53) C fl_X9_12 dX9_looked_53 (fun v19 ev19 => ?_)
  refine aw_getR (pc := 56) C fl_X9_256 dX9_looked_56 (fun v20 ev20 => ?_)
  refine aw_iload_n (pc := 59) C dX9_looked_59 rfl 3 rfl ?_
  refine aw_callVI (pc := 60) (c := 4) (As := [.int v4]) (rest := [.int v18]) (c' := 0) (s' := 0) C hE rfl (by decide) cal_X4_second ml_X9_262 rfl ⟨(Nat.le_of_ble_eq_true rfl), (Nat.le_of_ble_eq_true rfl)⟩ ⟨(Nat.le_of_ble_eq_true rfl), (Nat.le_of_ble_eq_true rfl)⟩ dX9_looked_60 (okX4_second E (kL K) v20 v4 h17) rfl (Nat.le_of_ble_eq_true rfl) rfl rfl (fun v22 h21 eh21 => ?_)
  refine aw_icmp_eq (pc := 63) C 68 dX9_looked_63 (by decide) (fun c24 => ?_) (fun c24 => ?_)
  · refine aw_iincN (pc := 68) (L1 := [(3, .int v14), (0, rf E a0), (1, rf E v3)]) (k := 1) C dX9_looked_68 3 rfl (by decide) (by decide) rfl (fun v23 ev23 => ?_)
    refine aw_goto (pc := 71) C 13 dX9_looked_71 (by decide) ?_
    exact aw_sub (L' := [(0, rf E a0), (1, rf E v3), (2, .int v23)]) [2, 3, 0] rfl (ih7 (v23, h21))
  refine aw_iload_n (pc := 66) C dX9_looked_66 rfl 3 rfl ?_
  exact aw_ireturn (pc := 67) C hr rfl hz0 rfl dX9_looked_67
def rmX9_tapeAt : Room := { frames := 0, cells := 0, slots := 0, locals := 0 }
set_option maxHeartbeats 4000000 in
set_option maxRecDepth 100000 in
theorem okX9_tapeAt (E : Ev) (l : Launch) (a0 : Nat) (a1 : Int32) (h0 : Mem) : AMet E l yX9_tapeAt cX9_tapeAt 2 (some (.object "TwoLetterForms$Tape")) rmX9_tapeAt [rf E a0, .int a1] h0 (rvR E) (fX9_tapeAt a0 a1 h0) := by
  refine am_intro (plainFor_of_name (by decide +kernel)) (Nat.le_of_ble_eq_true rfl) (fun K hKl C hr hnm hz0 => ?_)
  replace C : CxOK K E RX9 cX9_tapeAt 2 := C
  have hE : E.1 + 1 ≤ (kS K).heap.size := by omega
  unfold fX9_tapeAt
  show Aw K E _ _ _ _ _ 0 [(0, rf E a0), (1, .int a1)] [] h0 _
  refine aw_iload_n (pc := 0) C dX9_tapeAt_0 rfl 1 rfl ?_
  refine aw_if_lt (pc := 1) C 22 dX9_tapeAt_1 (by decide) (fun c6 => ?_) (fun c6 => ?_)
  · refine aw_null (pc := 22) C dX9_tapeAt_22 ?_
    exact aw_areturnN (pc := 23) C hr hz0 rfl dX9_tapeAt_23
  refine aw_iload_n (pc := 4) C dX9_tapeAt_4 rfl 1 rfl ?_
  refine aw_aload_n (pc := 5) C dX9_tapeAt_5 rfl 0 rfl ?_
  refine aw_getR (pc := 6) C fl_X9_62 dX9_tapeAt_6 (fun v1 ev1 => ?_)
  refine aw_arraylength (pc := 9) C dX9_tapeAt_9 (fun v2 ev2 => ?_)
  refine aw_icmp_ge (pc := 10) C 22 dX9_tapeAt_10 (by decide) (fun c5 => ?_) (fun c5 => ?_)
  · refine aw_null (pc := 22) C dX9_tapeAt_22 ?_
    exact aw_areturnN (pc := 23) C hr hz0 rfl dX9_tapeAt_23
  refine aw_aload_n (pc := 13) C dX9_tapeAt_13 rfl 0 rfl ?_
  refine aw_getR (pc := 14) C fl_X9_62 dX9_tapeAt_14 (fun v3 ev3 => ?_)
  refine aw_iload_n (pc := 17) C dX9_tapeAt_17 rfl 1 rfl ?_
  refine aw_aaload (pc := 18) C dX9_tapeAt_18 (fun v4 ev4 => ?_)
  refine aw_goto (pc := 19) C 23 dX9_tapeAt_19 (by decide) ?_
  exact aw_areturn (pc := 23) C hr (xR_ne ev4) hz0 rfl dX9_tapeAt_23
def rmX7_holdsNothing : Room := { frames := 0, cells := 0, slots := 0, locals := 0 }
set_option maxHeartbeats 4000000 in
set_option maxRecDepth 100000 in
theorem okX7_holdsNothing (E : Ev) (l : Launch) (a0 : Nat) (h0 : Mem) : AMet E l yX7_holdsNothing cX7_holdsNothing 1 (some (.boolean)) rmX7_holdsNothing [rf E a0] h0 rvI (fX7_holdsNothing a0 h0) := by
  refine am_intro (plainFor_of_name (by decide +kernel)) (Nat.le_of_ble_eq_true rfl) (fun K hKl C hr hnm hz0 => ?_)
  replace C : CxOK K E RX7 cX7_holdsNothing 1 := C
  have hE : E.1 + 1 ≤ (kS K).heap.size := by omega
  unfold fX7_holdsNothing
  show Aw K E _ _ _ _ _ 0 [(0, rf E a0)] [] h0 _
  refine aw_aload_n (pc := 0) C dX7_holdsNothing_0 rfl 0 rfl ?_
  refine aw_getI (pc := 1) C fl_X7_9 dX7_holdsNothing_1 (fun v1 ev1 => ?_)
  refine aw_iconst (pc := 4) (v := (-1)) C dX7_holdsNothing_4 (by decide) ?_
  refine aw_icmp_ne (pc := 5) C 12 dX7_holdsNothing_5 (by decide) (fun c2 => ?_) (fun c2 => ?_)
  · refine aw_iconst (pc := 8) (v := 1) C dX7_holdsNothing_8 (by decide) ?_
    refine aw_goto (pc := 9) C 13 dX7_holdsNothing_9 (by decide) ?_
    exact aw_ireturn (pc := 13) C hr rfl hz0 rfl dX7_holdsNothing_13
  refine aw_iconst (pc := 12) (v := 0) C dX7_holdsNothing_12 (by decide) ?_
  exact aw_ireturn (pc := 13) C hr rfl hz0 rfl dX7_holdsNothing_13
def rmX7_has : Room := { frames := 0, cells := 0, slots := 0, locals := 0 }
set_option maxHeartbeats 4000000 in
set_option maxRecDepth 100000 in
theorem okX7_has (E : Ev) (l : Launch) (a0 : Nat) (a1 : Int32) (h0 : Mem) : AMet E l yX7_has cX7_has 2 (some (.boolean)) rmX7_has [rf E a0, .int a1] h0 rvI (fX7_has a0 a1 h0) := by
  refine am_intro (plainFor_of_name (by decide +kernel)) (Nat.le_of_ble_eq_true rfl) (fun K hKl C hr hnm hz0 => ?_)
  replace C : CxOK K E RX7 cX7_has 2 := C
  have hE : E.1 + 1 ≤ (kS K).heap.size := by omega
  unfold fX7_has
  show Aw K E _ _ _ _ _ 0 [(0, rf E a0), (1, .int a1)] [] h0 _
  refine aw_iload_n (pc := 0) C dX7_has_0 rfl 1 rfl ?_
  refine aw_if_lt (pc := 1) C 25 dX7_has_1 (by decide) (fun c6 => ?_) (fun c6 => ?_)
  · refine aw_iconst (pc := 25) (v := 0) C dX7_has_25 (by decide) ?_
    exact aw_ireturn (pc := 26) C hr rfl hz0 rfl dX7_has_26
  refine aw_iload_n (pc := 4) C dX7_has_4 rfl 1 rfl ?_
  refine aw_aload_n (pc := 5) C dX7_has_5 rfl 0 rfl ?_
  refine aw_getI (pc := 6) C fl_X7_19 dX7_has_6 (fun v1 ev1 => ?_)
  refine aw_icmp_ge (pc := 9) C 25 dX7_has_9 (by decide) (fun c5 => ?_) (fun c5 => ?_)
  · refine aw_iconst (pc := 25) (v := 0) C dX7_has_25 (by decide) ?_
    exact aw_ireturn (pc := 26) C hr rfl hz0 rfl dX7_has_26
  refine aw_iload_n (pc := 12) C dX7_has_12 rfl 1 rfl ?_
  refine aw_aload_n (pc := 13) C dX7_has_13 rfl 0 rfl ?_
  refine aw_getR (pc := 14) C fl_X7_15 dX7_has_14 (fun v2 ev2 => ?_)
  refine aw_arraylength (pc := 17) C dX7_has_17 (fun v3 ev3 => ?_)
  refine aw_icmp_ge (pc := 18) C 25 dX7_has_18 (by decide) (fun c4 => ?_) (fun c4 => ?_)
  · refine aw_iconst (pc := 25) (v := 0) C dX7_has_25 (by decide) ?_
    exact aw_ireturn (pc := 26) C hr rfl hz0 rfl dX7_has_26
  refine aw_iconst (pc := 21) (v := 1) C dX7_has_21 (by decide) ?_
  refine aw_goto (pc := 22) C 26 dX7_has_22 (by decide) ?_
  exact aw_ireturn (pc := 26) C hr rfl hz0 rfl dX7_has_26
def rmX7_get : Room := { frames := 1, cells := 0, slots := 0, locals := 21 }
set_option maxHeartbeats 4000000 in
set_option maxRecDepth 100000 in
theorem okX7_get (E : Ev) (l : Launch) (a0 : Nat) (a1 : Int32) (h0 : Mem) : AMet E l yX7_get cX7_get 2 (some (.long)) rmX7_get [rf E a0, .int a1] h0 rvJ (fX7_get a0 a1 h0) := by
  refine am_intro (plainFor_of_name (by decide +kernel)) (Nat.le_of_ble_eq_true rfl) (fun K hKl C hr hnm hz0 => ?_)
  replace C : CxOK K E RX7 cX7_get 2 := C
  have hE : E.1 + 1 ≤ (kS K).heap.size := by omega
  unfold fX7_get
  show Aw K E _ _ _ _ _ 0 [(0, rf E a0), (1, .int a1)] [] h0 _
  refine aw_aload_n (pc := 0) C dX7_get_0 rfl 0 rfl ?_
  refine aw_iload_n (pc := 1) C dX7_get_1 rfl 1 rfl ?_
  refine aw_callVI (pc := 2) (c := 7) (As := [.int a1]) (rest := []) (c' := 0) (s' := 0) C hE rfl (by decide) cal_X7_has ml_X7_37 rfl ⟨(Nat.le_of_ble_eq_true rfl), (Nat.le_of_ble_eq_true rfl)⟩ ⟨(Nat.le_of_ble_eq_true rfl), (Nat.le_of_ble_eq_true rfl)⟩ dX7_get_2 (okX7_has E (kL K) a0 a1 h0) rfl (Nat.le_of_ble_eq_true rfl) rfl rfl (fun v2 h1 eh1 => ?_)
  refine aw_if_eq (pc := 5) C 17 dX7_get_5 (by decide) (fun c5 => ?_) (fun c5 => ?_)
  · refine aw_lconst (pc := 17) (v := 0) C dX7_get_17 (by decide) ?_
    exact aw_lreturn (pc := 18) C hr hz0 rfl dX7_get_18
  refine aw_aload_n (pc := 8) C dX7_get_8 rfl 0 rfl ?_
  refine aw_getR (pc := 9) C fl_X7_15 dX7_get_9 (fun v3 ev3 => ?_)
  refine aw_iload_n (pc := 12) C dX7_get_12 rfl 1 rfl ?_
  refine aw_laload (pc := 13) C dX7_get_13 (fun v4 ev4 => ?_)
  refine aw_goto (pc := 14) C 18 dX7_get_14 (by decide) ?_
  exact aw_lreturn (pc := 18) C hr hz0 rfl dX7_get_18
def rmX9_judge : Room := { frames := 2, cells := 0, slots := 0, locals := 42 }
set_option maxHeartbeats 4000000 in
set_option maxRecDepth 100000 in
theorem okX9_judge (E : Ev) (l : Launch) (a0 : Nat) (a1 : Int32) (a2 : Int32) (h0 : Mem) : AMet E l yX9_judge cX9_judge 6 (some (.int)) rmX9_judge [rf E a0, .int a1, .int a2] h0 rvI (fX9_judge a0 a1 a2 h0) := by
  refine am_intro (plainFor_of_name (by decide +kernel)) (Nat.le_of_ble_eq_true rfl) (fun K hKl C hr hnm hz0 => ?_)
  replace C : CxOK K E RX9 cX9_judge 6 := C
  have hE : E.1 + 1 ≤ (kS K).heap.size := by omega
  unfold fX9_judge
  show Aw K E _ _ _ _ _ 0 [(0, rf E a0), (1, .int a1), (2, .int a2)] [] h0 _
  refine aw_aload_n (pc := 0) C dX9_judge_0 rfl 0 rfl ?_
  refine aw_iload_n (pc := 1) C dX9_judge_1 rfl 1 rfl ?_
  refine aw_callVR (pc := 2) (c := 9) (As := [.int a1]) (rest := []) (c' := 0) (s' := 0) C hE rfl (by decide) cal_X9_tapeAt ml_X9_265 rfl ⟨(Nat.le_of_ble_eq_true rfl), (Nat.le_of_ble_eq_true rfl)⟩ ⟨(Nat.le_of_ble_eq_true rfl), (Nat.le_of_ble_eq_true rfl)⟩ dX9_judge_2 (okX9_tapeAt E (kL K) a0 a1 h0) rfl (Nat.le_of_ble_eq_true rfl) rfl rfl (fun h3 eh3 => ?_) (fun v2 h1 ev2 nv2 => ?_)
  · refine aw_astore_nN (pc := 5) (L' := [(3, .null), (0, rf E a0), (1, .int a1), (2, .int a2)]) C dX9_judge_5 rfl (by decide) rfl ?_
    refine aw_aload_nN (pc := 6) C dX9_judge_6 rfl 0 rfl ?_
    refine aw_ifnonnull_f (pc := 7) C dX9_judge_7 ?_
    refine aw_iconst (pc := 10) (v := (-1)) C dX9_judge_10 (by decide) ?_
    exact aw_ireturn (pc := 11) C hr rfl hz0 rfl dX9_judge_11
  refine aw_astore_n (pc := 5) (L' := [(3, rf E v2), (0, rf E a0), (1, .int a1), (2, .int a2)]) C dX9_judge_5 rfl (by decide) rfl ?_
  refine aw_aload_n (pc := 6) C dX9_judge_6 rfl 0 rfl ?_
  refine aw_ifnonnull_t (pc := 7) C 12 dX9_judge_7 (by decide) ?_
  refine aw_aload_n (pc := 12) C dX9_judge_12 rfl 0 rfl ?_
  refine aw_callVI (pc := 13) (c := 7) (As := []) (rest := []) (c' := 0) (s' := 0) C hE rfl (by decide) cal_X7_holdsNothing ml_X9_269 rfl ⟨(Nat.le_of_ble_eq_true rfl), (Nat.le_of_ble_eq_true rfl)⟩ ⟨(Nat.le_of_ble_eq_true rfl), (Nat.le_of_ble_eq_true rfl)⟩ dX9_judge_13 (okX7_holdsNothing E (kL K) v2 h1) rfl (Nat.le_of_ble_eq_true rfl) rfl rfl (fun v5 h4 eh4 => ?_)
  refine aw_jn (σ := Unit) 30 (fun s => [(0, rf E a0), (2, .int a2), (3, rf E v2)]) (fun s => []) (fun s => h4) (fun s => ?_) (fun k6 jk7 => ?_)
  · show Aw K E _ _ _ _ _ 30 [(0, rf E a0), (2, .int a2), (3, rf E v2)] [] h4 _
    refine aw_aload_n (pc := 30) C dX9_judge_30 rfl 2 rfl ?_
    refine aw_iload_n (pc := 31) C dX9_judge_31 rfl 1 rfl ?_
    refine aw_callVI (pc := 32) (c := 7) (As := [.int a2]) (rest := []) (c' := 0) (s' := 0) C hE rfl (by decide) cal_X7_has ml_X9_276 rfl ⟨(Nat.le_of_ble_eq_true rfl), (Nat.le_of_ble_eq_true rfl)⟩ ⟨(Nat.le_of_ble_eq_true rfl), (Nat.le_of_ble_eq_true rfl)⟩ dX9_judge_32 (okX7_has E (kL K) v2 a2 h4) rfl (Nat.le_of_ble_eq_true rfl) rfl rfl (fun v9 h8 eh8 => ?_)
    refine aw_if_ne (pc := 35) C 41 dX9_judge_35 (by decide) (fun c28 => ?_) (fun c28 => ?_)
    · refine aw_bipush (pc := 38) (v := 100) C dX9_judge_38 (by decide) ?_
      exact aw_ireturn (pc := 40) C hr rfl hz0 rfl dX9_judge_40
    refine aw_aload_n (pc := 41) C dX9_judge_41 rfl 0 rfl ?_
    refine aw_getR (pc := 42) C fl_X9_12 dX9_judge_42 (fun v10 ev10 => ?_)
    refine aw_getR (pc := 45) C fl_X9_71 dX9_judge_45 (fun v11 ev11 => ?_)
    refine aw_getR (pc := 48) C fl_X9_74 dX9_judge_48 (fun v12 ev12 => ?_)
    refine aw_astore (pc := 51) (L' := [(4, rf E v12), (0, rf E a0), (2, .int a2), (3, rf E v2)]) C dX9_judge_51 (by decide) rfl ?_
    refine aw_iconst (pc := 53) (v := 0) C dX9_judge_53 (by decide) ?_
    refine aw_istore (pc := 54) (L' := [(5, .int 0), (4, rf E v12), (0, rf E a0), (2, .int a2), (3, rf E v2)]) C dX9_judge_54 (by decide) rfl ?_
    refine aw_sub (L' := [(2, .int a2), (3, rf E v2), (4, rf E v12), (5, .int 0)]) [3, 4, 1, 0] rfl ?_
    refine aw_loop (pc := 56) (σ := Int32 × Mem) (fun s => [(2, .int a2), (3, rf E v2), (4, rf E v12), (5, .int s.1)]) (fun s => s.2) _ (fun k15 ih16 s => ?_) _ _
    obtain ⟨v13, h14⟩ := s
    show Aw K E _ _ _ _ _ 56 [(2, .int a2), (3, rf E v2), (4, rf E v12), (5, .int v13)] [] h14 _
    refine aw_iload (pc := 56) C dX9_judge_56 3 rfl ?_
    refine aw_aload (pc := 58) C dX9_judge_58 2 rfl ?_
    refine aw_getI (pc := 60) C fl_X9_78 dX9_judge_60 (fun v17 ev17 => ?_)
    refine aw_icmp_gt (pc := 63) C 112 dX9_judge_63 (by decide) (fun c27 => ?_) (fun c27 => ?_)
    · refine aw_bipush (pc := 112) (v := (-5)) C dX9_judge_112 (by decide) ?_
      exact aw_ireturn (pc := 114) C hr rfl hz0 rfl dX9_judge_114
    refine aw_aload_n (pc := 66) C dX9_judge_66 rfl 1 rfl ?_
    refine aw_iload_n (pc := 67) C dX9_judge_67 rfl 0 rfl ?_
    refine aw_iload (pc := 68) C dX9_judge_68 3 rfl ?_
    refine aw_iadd (pc := 70) C dX9_judge_70 ?_
    refine aw_callVI (pc := 71) (c := 7) (As := [.int (a2 + v13)]) (rest := []) (c' := 0) (s' := 0) C hE rfl (by decide) cal_X7_has ml_X9_276 rfl ⟨(Nat.le_of_ble_eq_true rfl), (Nat.le_of_ble_eq_true rfl)⟩ ⟨(Nat.le_of_ble_eq_true rfl), (Nat.le_of_ble_eq_true rfl)⟩ dX9_judge_71 (okX7_has E (kL K) v2 (a2 + v13) h14) rfl (Nat.le_of_ble_eq_true rfl) rfl rfl (fun v19 h18 eh18 => ?_)
    refine aw_if_ne (pc := 74) C 83 dX9_judge_74 (by decide) (fun c26 => ?_) (fun c26 => ?_)
    · refine aw_bipush (pc := 77) (v := 100) C dX9_judge_77 (by decide) ?_
      refine aw_iload (pc := 79) C dX9_judge_79 3 rfl ?_
      refine aw_iadd (pc := 81) C dX9_judge_81 ?_
      exact aw_ireturn (pc := 82) C hr rfl hz0 rfl dX9_judge_82
    refine aw_aload_n (pc := 83) C dX9_judge_83 rfl 1 rfl ?_
    refine aw_iload_n (pc := 84) C dX9_judge_84 rfl 0 rfl ?_
    refine aw_iload (pc := 85) C dX9_judge_85 3 rfl ?_
    refine aw_iadd (pc := 87) C dX9_judge_87 ?_
    refine aw_callVJ (pc := 88) (c := 7) (As := [.int (a2 + v13)]) (rest := []) (c' := 0) (s' := 0) C hE rfl (by decide) cal_X7_get ml_X9_277 rfl ⟨(Nat.le_of_ble_eq_true rfl), (Nat.le_of_ble_eq_true rfl)⟩ ⟨(Nat.le_of_ble_eq_true rfl), (Nat.le_of_ble_eq_true rfl)⟩ dX9_judge_88 (okX7_get E (kL K) v2 (a2 + v13) h18) rfl (Nat.le_of_ble_eq_true rfl) rfl rfl (fun v21 h20 eh20 => ?_)
    refine aw_aload (pc := 91) C dX9_judge_91 2 rfl ?_
    refine aw_iload (pc := 93) C dX9_judge_93 3 rfl ?_
    refine aw_callVI (pc := 95) (c := 2) (As := [.int v13]) (rest := [.long v21]) (c' := 0) (s' := 0) C hE rfl (by decide) cal_X2_get ml_X9_92 rfl ⟨(Nat.le_of_ble_eq_true rfl), (Nat.le_of_ble_eq_true rfl)⟩ ⟨(Nat.le_of_ble_eq_true rfl), (Nat.le_of_ble_eq_true rfl)⟩ dX9_judge_95 (okX2_get E (kL K) v12 v13 h20) rfl (Nat.le_of_ble_eq_true rfl) rfl rfl (fun v23 h22 eh22 => ?_)
    refine aw_i2l (pc := 98) C dX9_judge_98 ?_
    refine aw_lcmp (pc := 99) C dX9_judge_99 ?_
    refine aw_if_eq (pc := 100) C 106 dX9_judge_100 (by decide) (fun c25 => ?_) (fun c25 => ?_)
    · refine aw_iincN (pc := 106) (L1 := [(2, .int a2), (3, rf E v2), (4, rf E v12)]) (k := 1) C dX9_judge_106 3 rfl (by decide) (by decide) rfl (fun v24 ev24 => ?_)
      refine aw_goto (pc := 109) C 56 dX9_judge_109 (by decide) ?_
      exact aw_sub (L' := [(2, .int a2), (3, rf E v2), (4, rf E v12), (5, .int v24)]) [1, 2, 3, 0] rfl (ih16 (v24, h22))
    refine aw_iload (pc := 103) C dX9_judge_103 3 rfl ?_
    exact aw_ireturn (pc := 105) C hr rfl hz0 rfl dX9_judge_105
  refine aw_if_ne (pc := 16) C 30 dX9_judge_16 (by decide) (fun c31 => ?_) (fun c31 => ?_)
  · refine aw_aload_n (pc := 19) C dX9_judge_19 rfl 0 rfl ?_
    refine aw_getI (pc := 20) C fl_X9_273 dX9_judge_20 (fun v29 ev29 => ?_)
    refine aw_iconst (pc := 23) (v := 1) C dX9_judge_23 (by decide) ?_
    refine aw_icmp_eq (pc := 24) C 30 dX9_judge_24 (by decide) (fun c30 => ?_) (fun c30 => ?_)
    · exact aw_sub (L' := [(0, rf E a0), (2, .int a2), (3, rf E v2)]) [1, 3, 0] rfl (jk7 ())
    refine aw_bipush (pc := 27) (v := (-12)) C dX9_judge_27 (by decide) ?_
    exact aw_ireturn (pc := 29) C hr rfl hz0 rfl dX9_judge_29
  exact aw_sub (L' := [(0, rf E a0), (2, .int a2), (3, rf E v2)]) [1, 3, 0] rfl (jk7 ())
def rmX4_copy : Room := { frames := 1, cells := 0, slots := 0, locals := 80 }
set_option maxHeartbeats 4000000 in
set_option maxRecDepth 100000 in
theorem okX4_copy (E : Ev) (l : Launch) (a0 : Nat) (a1 : Nat) (h0 : Mem) : AMet E l yX4_copy cX4_copy 2 none rmX4_copy [rf E a0, rf E a1] h0 rvV (fX4_copy a0 a1 h0) := by
  refine am_intro (plainFor_of_name (by decide +kernel)) (Nat.le_of_ble_eq_true rfl) (fun K hKl C hr hnm hz0 => ?_)
  replace C : CxOK K E RX4 cX4_copy 2 := C
  have hE : E.1 + 1 ≤ (kS K).heap.size := by omega
  unfold fX4_copy
  show Aw K E _ _ _ _ _ 0 [(0, rf E a0), (1, rf E a1)] [] h0 _
  refine aw_aload_n (pc := 0) C dX4_copy_0 rfl 0 rfl ?_
  refine aw_aload_n (pc := 1) C dX4_copy_1 rfl 1 rfl ?_
  refine aw_getI (pc := 2) C fl_X4_9 dX4_copy_2 (fun v1 ev1 => ?_)
  refine aw_putI (pc := 5) C fw_X4_9 rfl rfl dX4_copy_5 (fun h2 eh2 => ?_)
  refine aw_aload_n (pc := 8) C dX4_copy_8 rfl 1 rfl ?_
  refine aw_getR (pc := 9) C fl_X4_21 dX4_copy_9 (fun v3 ev3 => ?_)
  refine aw_iconst (pc := 12) (v := 0) C dX4_copy_12 (by decide) ?_
  refine aw_aload_n (pc := 13) C dX4_copy_13 rfl 0 rfl ?_
  refine aw_getR (pc := 14) C fl_X4_21 dX4_copy_14 (fun v4 ev4 => ?_)
  refine aw_iconst (pc := 17) (v := 0) C dX4_copy_17 (by decide) ?_
  refine aw_aload_n (pc := 18) C dX4_copy_18 rfl 0 rfl ?_
  refine aw_getR (pc := 19) C fl_X4_21 dX4_copy_19 (fun v5 ev5 => ?_)
  refine aw_arraylength (pc := 22) C dX4_copy_22 (fun v6 ev6 => ?_)
  refine aw_aload_n (pc := 23) C dX4_copy_23 rfl 1 rfl ?_
  refine aw_getR (pc := 24) C fl_X4_21 dX4_copy_24 (fun v7 ev7 => ?_)
  refine aw_arraylength (pc := 27) C dX4_copy_27 (fun v8 ev8 => ?_)
  refine aw_callSI (pc := 28) (As := [.int v6, .int v8]) (rest := [.int 0, rf E v4, .int 0, rf E v3]) (c' := 0) (s' := 0) C hE cal_J9_min_7cf53 ml_X4_25 rfl ⟨(Nat.le_of_ble_eq_true rfl), (Nat.le_of_ble_eq_true rfl)⟩ ⟨(Nat.le_of_ble_eq_true rfl), (Nat.le_of_ble_eq_true rfl)⟩ dX4_copy_28 (okJ9_min_7cf53 E (kL K) v6 v8 h2) rfl (Nat.le_of_ble_eq_true rfl) rfl rfl (fun v10 h9 eh9 => ?_)
  refine aw_copyI (pc := 31) C ml_X4_28 ac_1 ac_2 ac_3 (Nat.le_of_ble_eq_true rfl) (by decide +kernel) dX4_copy_31 (fun h11 eh11 => ?_)
  exact aw_return (pc := 34) C hr hz0 rfl dX4_copy_34
def rmX6_copy : Room := { frames := 3, cells := 0, slots := 0, locals := 122 }
set_option maxHeartbeats 4000000 in
set_option maxRecDepth 100000 in
theorem okX6_copy (E : Ev) (l : Launch) (a0 : Nat) (a1 : Nat) (h0 : Mem) : AMet E l yX6_copy cX6_copy 2 none rmX6_copy [rf E a0, rf E a1] h0 rvV (fX6_copy a0 a1 h0) := by
  refine am_intro (plainFor_of_name (by decide +kernel)) (Nat.le_of_ble_eq_true rfl) (fun K hKl C hr hnm hz0 => ?_)
  replace C : CxOK K E RX6 cX6_copy 2 := C
  have hE : E.1 + 1 ≤ (kS K).heap.size := by omega
  unfold fX6_copy
  show Aw K E _ _ _ _ _ 0 [(0, rf E a0), (1, rf E a1)] [] h0 _
  refine aw_aload_n (pc := 0) C dX6_copy_0 rfl 0 rfl ?_
  refine aw_getR (pc := 1) C fl_X6_12 dX6_copy_1 (fun v1 ev1 => ?_)
  refine aw_aload_n (pc := 4) C dX6_copy_4 rfl 1 rfl ?_
  refine aw_getR (pc := 5) C fl_X6_12 dX6_copy_5 (fun v2 ev2 => ?_)
  refine aw_callVV (pc := 8) (c := 1) (As := [rf E v2]) (rest := []) (c' := 0) (s' := 0) C hE rfl (by decide) cal_X1_copy ml_X6_33 rfl ⟨(Nat.le_of_ble_eq_true rfl), (Nat.le_of_ble_eq_true rfl)⟩ ⟨(Nat.le_of_ble_eq_true rfl), (Nat.le_of_ble_eq_true rfl)⟩ dX6_copy_8 (okX1_copy E (kL K) v1 v2 h0) rfl (Nat.le_of_ble_eq_true rfl) rfl rfl (fun _u h3 eh3 => ?_)
  refine aw_aload_n (pc := 11) C dX6_copy_11 rfl 0 rfl ?_
  refine aw_getR (pc := 12) C fl_X6_23 dX6_copy_12 (fun v4 ev4 => ?_)
  refine aw_aload_n (pc := 15) C dX6_copy_15 rfl 1 rfl ?_
  refine aw_getR (pc := 16) C fl_X6_23 dX6_copy_16 (fun v5 ev5 => ?_)
  refine aw_callVV (pc := 19) (c := 4) (As := [rf E v5]) (rest := []) (c' := 0) (s' := 0) C hE rfl (by decide) cal_X4_copy ml_X6_37 rfl ⟨(Nat.le_of_ble_eq_true rfl), (Nat.le_of_ble_eq_true rfl)⟩ ⟨(Nat.le_of_ble_eq_true rfl), (Nat.le_of_ble_eq_true rfl)⟩ dX6_copy_19 (okX4_copy E (kL K) v4 v5 h3) rfl (Nat.le_of_ble_eq_true rfl) rfl rfl (fun _u h6 eh6 => ?_)
  refine aw_aload_n (pc := 22) C dX6_copy_22 rfl 0 rfl ?_
  refine aw_getR (pc := 23) C fl_X6_27 dX6_copy_23 (fun v7 ev7 => ?_)
  refine aw_aload_n (pc := 26) C dX6_copy_26 rfl 1 rfl ?_
  refine aw_getR (pc := 27) C fl_X6_27 dX6_copy_27 (fun v8 ev8 => ?_)
  refine aw_callVV (pc := 30) (c := 4) (As := [rf E v8]) (rest := []) (c' := 0) (s' := 0) C hE rfl (by decide) cal_X4_copy ml_X6_37 rfl ⟨(Nat.le_of_ble_eq_true rfl), (Nat.le_of_ble_eq_true rfl)⟩ ⟨(Nat.le_of_ble_eq_true rfl), (Nat.le_of_ble_eq_true rfl)⟩ dX6_copy_30 (okX4_copy E (kL K) v7 v8 h6) rfl (Nat.le_of_ble_eq_true rfl) rfl rfl (fun _u h9 eh9 => ?_)
  refine aw_aload_n (pc := 33) C dX6_copy_33 rfl 0 rfl ?_
  refine aw_getR (pc := 34) C fl_X6_30 dX6_copy_34 (fun v10 ev10 => ?_)
  refine aw_aload_n (pc := 37) C dX6_copy_37 rfl 1 rfl ?_
  refine aw_getR (pc := 38) C fl_X6_30 dX6_copy_38 (fun v11 ev11 => ?_)
  refine aw_callVV (pc := 41) (c := 4) (As := [rf E v11]) (rest := []) (c' := 0) (s' := 0) C hE rfl (by decide) cal_X4_copy ml_X6_37 rfl ⟨(Nat.le_of_ble_eq_true rfl), (Nat.le_of_ble_eq_true rfl)⟩ ⟨(Nat.le_of_ble_eq_true rfl), (Nat.le_of_ble_eq_true rfl)⟩ dX6_copy_41 (okX4_copy E (kL K) v10 v11 h9) rfl (Nat.le_of_ble_eq_true rfl) rfl rfl (fun _u h12 eh12 => ?_)
  exact aw_return (pc := 44) C hr hz0 rfl dX6_copy_44
def rmX9_image : Room := { frames := 4, cells := 0, slots := 0, locals := 143 }
set_option maxHeartbeats 4000000 in
set_option maxRecDepth 100000 in
theorem okX9_image (E : Ev) (l : Launch) (a0 : Nat) (h0 : Mem) : AMet E l yX9_image cX9_image 1 (some (.int)) rmX9_image [rf E a0] h0 rvI (fX9_image a0 h0) := by
  refine am_intro (plainFor_of_name (by decide +kernel)) (Nat.le_of_ble_eq_true rfl) (fun K hKl C hr hnm hz0 => ?_)
  replace C : CxOK K E RX9 cX9_image 1 := C
  have hE : E.1 + 1 ≤ (kS K).heap.size := by omega
  unfold fX9_image
  show Aw K E _ _ _ _ _ 0 [(0, rf E a0)] [] h0 _
  refine aw_aload_n (pc := 0) C dX9_image_0 rfl 0 rfl ?_
  refine aw_getR (pc := 1) C fl_X9_18 dX9_image_1 (fun v1 ev1 => ?_)
  refine aw_aload_n (pc := 4) C dX9_image_4 rfl 0 rfl ?_
  refine aw_getR (pc := 5) C fl_X9_12 dX9_image_5 (fun v2 ev2 => ?_)
  refine aw_callVV (pc := 8) (c := 6) (As := [rf E v2]) (rest := []) (c' := 0) (s' := 0) C hE rfl (by decide) cal_X6_copy ml_X9_279 rfl ⟨(Nat.le_of_ble_eq_true rfl), (Nat.le_of_ble_eq_true rfl)⟩ ⟨(Nat.le_of_ble_eq_true rfl), (Nat.le_of_ble_eq_true rfl)⟩ dX9_image_8 (okX6_copy E (kL K) v1 v2 h0) rfl (Nat.le_of_ble_eq_true rfl) rfl rfl (fun _u h3 eh3 => ?_)
  refine aw_aload_n (pc := 11) C dX9_image_11 rfl 0 rfl ?_
  refine aw_iconst (pc := 12) (v := 1) C dX9_image_12 (by decide) ?_
  refine aw_putI (pc := 13) C fw_X9_21 rfl rfl dX9_image_13 (fun h4 eh4 => ?_)
  refine aw_aload_n (pc := 16) C dX9_image_16 rfl 0 rfl ?_
  refine aw_getR (pc := 17) C fl_X9_12 dX9_image_17 (fun v5 ev5 => ?_)
  refine aw_getR (pc := 20) C fl_X9_71 dX9_image_20 (fun v6 ev6 => ?_)
  refine aw_getR (pc := 23) C fl_X9_74 dX9_image_23 (fun v7 ev7 => ?_)
  refine aw_getI (pc := 26) C fl_X9_78 dX9_image_26 (fun v8 ev8 => ?_)
  exact aw_ireturn (pc := 29) C hr rfl hz0 rfl dX9_image_29
def rmX9_undo : Room := { frames := 4, cells := 0, slots := 0, locals := 143 }
set_option maxHeartbeats 4000000 in
set_option maxRecDepth 100000 in
theorem okX9_undo (E : Ev) (l : Launch) (a0 : Nat) (h0 : Mem) : AMet E l yX9_undo cX9_undo 1 (some (.int)) rmX9_undo [rf E a0] h0 rvI (fX9_undo a0 h0) := by
  refine am_intro (plainFor_of_name (by decide +kernel)) (Nat.le_of_ble_eq_true rfl) (fun K hKl C hr hnm hz0 => ?_)
  replace C : CxOK K E RX9 cX9_undo 1 := C
  have hE : E.1 + 1 ≤ (kS K).heap.size := by omega
  unfold fX9_undo
  show Aw K E _ _ _ _ _ 0 [(0, rf E a0)] [] h0 _
  refine aw_aload_n (pc := 0) C dX9_undo_0 rfl 0 rfl ?_
  refine aw_getI (pc := 1) C fl_X9_21 dX9_undo_1 (fun v1 ev1 => ?_)
  refine aw_if_ne (pc := 4) C 10 dX9_undo_4 (by decide) (fun c9 => ?_) (fun c9 => ?_)
  · refine aw_bipush (pc := 7) (v := (-3)) C dX9_undo_7 (by decide) ?_
    exact aw_ireturn (pc := 9) C hr rfl hz0 rfl dX9_undo_9
  refine aw_aload_n (pc := 10) C dX9_undo_10 rfl 0 rfl ?_
  refine aw_getR (pc := 11) C fl_X9_12 dX9_undo_11 (fun v2 ev2 => ?_)
  refine aw_aload_n (pc := 14) C dX9_undo_14 rfl 0 rfl ?_
  refine aw_getR (pc := 15) C fl_X9_18 dX9_undo_15 (fun v3 ev3 => ?_)
  refine aw_callVV (pc := 18) (c := 6) (As := [rf E v3]) (rest := []) (c' := 0) (s' := 0) C hE rfl (by decide) cal_X6_copy ml_X9_279 rfl ⟨(Nat.le_of_ble_eq_true rfl), (Nat.le_of_ble_eq_true rfl)⟩ ⟨(Nat.le_of_ble_eq_true rfl), (Nat.le_of_ble_eq_true rfl)⟩ dX9_undo_18 (okX6_copy E (kL K) v2 v3 h0) rfl (Nat.le_of_ble_eq_true rfl) rfl rfl (fun _u h4 eh4 => ?_)
  refine aw_aload_n (pc := 21) C dX9_undo_21 rfl 0 rfl ?_
  refine aw_getR (pc := 22) C fl_X9_12 dX9_undo_22 (fun v5 ev5 => ?_)
  refine aw_getR (pc := 25) C fl_X9_71 dX9_undo_25 (fun v6 ev6 => ?_)
  refine aw_getR (pc := 28) C fl_X9_74 dX9_undo_28 (fun v7 ev7 => ?_)
  refine aw_getI (pc := 31) C fl_X9_78 dX9_undo_31 (fun v8 ev8 => ?_)
  exact aw_ireturn (pc := 34) C hr rfl hz0 rfl dX9_undo_34
def rmX9_count : Room := { frames := 0, cells := 0, slots := 0, locals := 0 }
set_option maxHeartbeats 4000000 in
set_option maxRecDepth 100000 in
theorem okX9_count (E : Ev) (l : Launch) (a0 : Nat) (a1 : Int32) (h0 : Mem) : AMet E l yX9_count cX9_count 2 (some (.int)) rmX9_count [rf E a0, .int a1] h0 rvI (fX9_count a0 a1 h0) := by
  refine am_intro (plainFor_of_name (by decide +kernel)) (Nat.le_of_ble_eq_true rfl) (fun K hKl C hr hnm hz0 => ?_)
  replace C : CxOK K E RX9 cX9_count 2 := C
  have hE : E.1 + 1 ≤ (kS K).heap.size := by omega
  unfold fX9_count
  show Aw K E _ _ _ _ _ 0 [(0, rf E a0), (1, .int a1)] [] h0 _
  refine aw_iload_n (pc := 0) C dX9_count_0 rfl 1 rfl ?_
  refine aw_case 0 (fun c1 => ?_) (fun c1 => ?_)
  · refine aw_tableIn (pc := 1) C 0 32 c1 dX9_count_1 (by decide) (by decide) rfl (by decide) ?_
    refine aw_aload_n (pc := 32) C dX9_count_32 rfl 0 rfl ?_
    refine aw_getR (pc := 33) C fl_X9_12 dX9_count_33 (fun v2 ev2 => ?_)
    refine aw_getR (pc := 36) C fl_X9_213 dX9_count_36 (fun v3 ev3 => ?_)
    refine aw_getI (pc := 39) C fl_X9_133 dX9_count_39 (fun v4 ev4 => ?_)
    exact aw_ireturn (pc := 42) C hr rfl hz0 rfl dX9_count_42
  refine aw_case 1 (fun c5 => ?_) (fun c5 => ?_)
  · refine aw_tableIn (pc := 1) C 1 43 c5 dX9_count_1 (by decide) (by decide) rfl (by decide) ?_
    refine aw_aload_n (pc := 43) C dX9_count_43 rfl 0 rfl ?_
    refine aw_getR (pc := 44) C fl_X9_12 dX9_count_44 (fun v6 ev6 => ?_)
    refine aw_getR (pc := 47) C fl_X9_244 dX9_count_47 (fun v7 ev7 => ?_)
    refine aw_getI (pc := 50) C fl_X9_133 dX9_count_50 (fun v8 ev8 => ?_)
    exact aw_ireturn (pc := 53) C hr rfl hz0 rfl dX9_count_53
  refine aw_case 2 (fun c9 => ?_) (fun c9 => ?_)
  · refine aw_tableIn (pc := 1) C 2 54 c9 dX9_count_1 (by decide) (by decide) rfl (by decide) ?_
    refine aw_aload_n (pc := 54) C dX9_count_54 rfl 0 rfl ?_
    refine aw_getR (pc := 55) C fl_X9_12 dX9_count_55 (fun v10 ev10 => ?_)
    refine aw_getR (pc := 58) C fl_X9_256 dX9_count_58 (fun v11 ev11 => ?_)
    refine aw_getI (pc := 61) C fl_X9_133 dX9_count_61 (fun v12 ev12 => ?_)
    exact aw_ireturn (pc := 64) C hr rfl hz0 rfl dX9_count_64
  refine aw_case 3 (fun c13 => ?_) (fun c13 => ?_)
  · refine aw_tableIn (pc := 1) C 3 65 c13 dX9_count_1 (by decide) (by decide) rfl (by decide) ?_
    refine aw_aload_n (pc := 65) C dX9_count_65 rfl 0 rfl ?_
    refine aw_getR (pc := 66) C fl_X9_56 dX9_count_66 (fun v14 ev14 => ?_)
    refine aw_getI (pc := 69) C fl_X9_122 dX9_count_69 (fun v15 ev15 => ?_)
    exact aw_ireturn (pc := 72) C hr rfl hz0 rfl dX9_count_72
  refine aw_tableOut (pc := 1) C 73 dX9_count_1 (by have qc1 := lv_neT c1 (show (0 : Int32).toInt = 0 by decide); have qc5 := lv_neT c5 (show (1 : Int32).toInt = 1 by decide); have qc9 := lv_neT c9 (show (2 : Int32).toInt = 2 by decide); have qc13 := lv_neT c13 (show (3 : Int32).toInt = 3 by decide); omega) (by decide) ?_
  refine aw_bipush (pc := 73) (v := (-2)) C dX9_count_73 (by decide) ?_
  exact aw_ireturn (pc := 75) C hr rfl hz0 rfl dX9_count_75
def rmX7_become : Room := { frames := 1, cells := 0, slots := 0, locals := 24 }
set_option maxHeartbeats 4000000 in
set_option maxRecDepth 100000 in
theorem okX7_become (E : Ev) (l : Launch) (a0 : Nat) (a1 : Int32) (a2 : Int32) (h0 : Mem) : AMet E l yX7_become cX7_become 3 none rmX7_become [rf E a0, .int a1, .int a2] h0 rvV (fX7_become a0 a1 a2 h0) := by
  refine am_intro (plainFor_of_name (by decide +kernel)) (Nat.le_of_ble_eq_true rfl) (fun K hKl C hr hnm hz0 => ?_)
  replace C : CxOK K E RX7 cX7_become 3 := C
  have hE : E.1 + 1 ≤ (kS K).heap.size := by omega
  unfold fX7_become
  show Aw K E _ _ _ _ _ 0 [(0, rf E a0), (1, .int a1), (2, .int a2)] [] h0 _
  refine aw_aload_n (pc := 0) C dX7_become_0 rfl 0 rfl ?_
  refine aw_iload_n (pc := 1) C dX7_become_1 rfl 1 rfl ?_
  refine aw_putI (pc := 2) C fw_X7_9 rfl rfl dX7_become_2 (fun h1 eh1 => ?_)
  refine aw_aload_n (pc := 5) C dX7_become_5 rfl 0 rfl ?_
  refine aw_iconst (pc := 6) (v := 0) C dX7_become_6 (by decide) ?_
  refine aw_iload_n (pc := 7) C dX7_become_7 rfl 2 rfl ?_
  refine aw_aload_n (pc := 8) C dX7_become_8 rfl 0 rfl ?_
  refine aw_getR (pc := 9) C fl_X7_15 dX7_become_9 (fun v2 ev2 => ?_)
  refine aw_arraylength (pc := 12) C dX7_become_12 (fun v3 ev3 => ?_)
  refine aw_callSI (pc := 13) (As := [.int a2, .int v3]) (rest := [.int 0, rf E a0]) (c' := 0) (s' := 0) C hE cal_J9_min_7cf53 ml_X7_22 rfl ⟨(Nat.le_of_ble_eq_true rfl), (Nat.le_of_ble_eq_true rfl)⟩ ⟨(Nat.le_of_ble_eq_true rfl), (Nat.le_of_ble_eq_true rfl)⟩ dX7_become_13 (okJ9_min_7cf53 E (kL K) a2 v3 h1) rfl (Nat.le_of_ble_eq_true rfl) rfl rfl (fun v5 h4 eh4 => ?_)
  refine aw_callSI (pc := 16) (As := [.int 0, .int v5]) (rest := [rf E a0]) (c' := 0) (s' := 0) C hE cal_J9_max_7cf53 ml_X7_28 rfl ⟨(Nat.le_of_ble_eq_true rfl), (Nat.le_of_ble_eq_true rfl)⟩ ⟨(Nat.le_of_ble_eq_true rfl), (Nat.le_of_ble_eq_true rfl)⟩ dX7_become_16 (okJ9_max_7cf53 E (kL K) 0 v5 h4) rfl (Nat.le_of_ble_eq_true rfl) rfl rfl (fun v7 h6 eh6 => ?_)
  refine aw_putI (pc := 19) C fw_X7_19 rfl rfl dX7_become_19 (fun h8 eh8 => ?_)
  refine aw_aload_n (pc := 22) C dX7_become_22 rfl 0 rfl ?_
  refine aw_getR (pc := 23) C fl_X7_15 dX7_become_23 (fun v9 ev9 => ?_)
  refine aw_lconst (pc := 26) (v := 0) C dX7_become_26 (by decide) ?_
  refine aw_callSV (pc := 27) (As := [rf E v9, .long 0]) (rest := []) (c' := 0) (s' := 0) C hE cal_J7_fill_d0a16 ml_X7_31 rfl ⟨(Nat.le_of_ble_eq_true rfl), (Nat.le_of_ble_eq_true rfl)⟩ ⟨(Nat.le_of_ble_eq_true rfl), (Nat.le_of_ble_eq_true rfl)⟩ dX7_become_27 (okJ7_fill_d0a16 E (kL K) v9 0 h8) rfl (Nat.le_of_ble_eq_true rfl) rfl rfl (fun _u h10 eh10 => ?_)
  exact aw_return (pc := 30) C hr hz0 rfl dX7_become_30
def rmX9_tape : Room := { frames := 2, cells := 0, slots := 0, locals := 46 }
set_option maxHeartbeats 4000000 in
set_option maxRecDepth 100000 in
theorem okX9_tape (E : Ev) (l : Launch) (a0 : Nat) (a1 : Int32) (a2 : Int32) (a3 : Int32) (h0 : Mem) : AMet E l yX9_tape cX9_tape 5 (some (.int)) rmX9_tape [rf E a0, .int a1, .int a2, .int a3] h0 rvI (fX9_tape a0 a1 a2 a3 h0) := by
  refine am_intro (plainFor_of_name (by decide +kernel)) (Nat.le_of_ble_eq_true rfl) (fun K hKl C hr hnm hz0 => ?_)
  replace C : CxOK K E RX9 cX9_tape 5 := C
  have hE : E.1 + 1 ≤ (kS K).heap.size := by omega
  unfold fX9_tape
  show Aw K E _ _ _ _ _ 0 [(0, rf E a0), (1, .int a1), (2, .int a2), (3, .int a3)] [] h0 _
  refine aw_aload_n (pc := 0) C dX9_tape_0 rfl 0 rfl ?_
  refine aw_iload_n (pc := 1) C dX9_tape_1 rfl 1 rfl ?_
  refine aw_callVR (pc := 2) (c := 9) (As := [.int a1]) (rest := []) (c' := 0) (s' := 0) C hE rfl (by decide) cal_X9_tapeAt ml_X9_265 rfl ⟨(Nat.le_of_ble_eq_true rfl), (Nat.le_of_ble_eq_true rfl)⟩ ⟨(Nat.le_of_ble_eq_true rfl), (Nat.le_of_ble_eq_true rfl)⟩ dX9_tape_2 (okX9_tapeAt E (kL K) a0 a1 h0) rfl (Nat.le_of_ble_eq_true rfl) rfl rfl (fun h3 eh3 => ?_) (fun v2 h1 ev2 nv2 => ?_)
  · refine aw_astoreN (pc := 5) (L' := [(4, .null), (0, rf E a0), (1, .int a1), (2, .int a2), (3, .int a3)]) C dX9_tape_5 (by decide) rfl ?_
    refine aw_aloadN (pc := 7) C dX9_tape_7 0 rfl ?_
    refine aw_ifnonnull_f (pc := 9) C dX9_tape_9 ?_
    refine aw_iconst (pc := 12) (v := (-1)) C dX9_tape_12 (by decide) ?_
    exact aw_ireturn (pc := 13) C hr rfl hz0 rfl dX9_tape_13
  refine aw_astore (pc := 5) (L' := [(4, rf E v2), (0, rf E a0), (1, .int a1), (2, .int a2), (3, .int a3)]) C dX9_tape_5 (by decide) rfl ?_
  refine aw_aload (pc := 7) C dX9_tape_7 0 rfl ?_
  refine aw_ifnonnull_t (pc := 9) C 14 dX9_tape_9 (by decide) ?_
  refine aw_iload_n (pc := 14) C dX9_tape_14 rfl 3 rfl ?_
  refine aw_iconst (pc := 15) (v := (-1)) C dX9_tape_15 (by decide) ?_
  refine aw_icmp_ne (pc := 16) C 28 dX9_tape_16 (by decide) (fun c11 => ?_) (fun c11 => ?_)
  · refine aw_aload (pc := 19) C dX9_tape_19 0 rfl ?_
    refine aw_iconst (pc := 21) (v := (-1)) C dX9_tape_21 (by decide) ?_
    refine aw_iconst (pc := 22) (v := 0) C dX9_tape_22 (by decide) ?_
    refine aw_callVV (pc := 23) (c := 7) (As := [.int (-1), .int 0]) (rest := []) (c' := 0) (s' := 0) C hE rfl (by decide) cal_X7_become ml_X9_282 rfl ⟨(Nat.le_of_ble_eq_true rfl), (Nat.le_of_ble_eq_true rfl)⟩ ⟨(Nat.le_of_ble_eq_true rfl), (Nat.le_of_ble_eq_true rfl)⟩ dX9_tape_23 (okX7_become E (kL K) v2 (-1) 0 h1) rfl (Nat.le_of_ble_eq_true rfl) rfl rfl (fun _u h4 eh4 => ?_)
    refine aw_iconst (pc := 26) (v := 1) C dX9_tape_26 (by decide) ?_
    exact aw_ireturn (pc := 27) C hr rfl hz0 rfl dX9_tape_27
  refine aw_iload_n (pc := 28) C dX9_tape_28 rfl 3 rfl ?_
  refine aw_iconst (pc := 29) (v := 0) C dX9_tape_29 (by decide) ?_
  refine aw_iconst (pc := 30) (v := 4) C dX9_tape_30 (by decide) ?_
  refine aw_callSI (pc := 31) (As := [.int a2, .int 0, .int 4]) (rest := []) (c' := 0) (s' := 0) C hE cal_X9_between ml_X9_67 rfl ⟨(Nat.le_of_ble_eq_true rfl), (Nat.le_of_ble_eq_true rfl)⟩ ⟨(Nat.le_of_ble_eq_true rfl), (Nat.le_of_ble_eq_true rfl)⟩ dX9_tape_31 (okX9_between E (kL K) a2 0 4 h1) rfl (Nat.le_of_ble_eq_true rfl) rfl rfl (fun v6 h5 eh5 => ?_)
  refine aw_if_eq (pc := 34) C 43 dX9_tape_34 (by decide) (fun c10 => ?_) (fun c10 => ?_)
  · refine aw_bipush (pc := 43) (v := (-2)) C dX9_tape_43 (by decide) ?_
    exact aw_ireturn (pc := 45) C hr rfl hz0 rfl dX9_tape_45
  refine aw_iload_n (pc := 37) C dX9_tape_37 rfl 4 rfl ?_
  refine aw_bipush (pc := 38) (v := 60) C dX9_tape_38 (by decide) ?_
  refine aw_icmp_le (pc := 40) C 46 dX9_tape_40 (by decide) (fun c9 => ?_) (fun c9 => ?_)
  · refine aw_iload_n (pc := 46) C dX9_tape_46 rfl 4 rfl ?_
    refine aw_if_ge (pc := 47) C 53 dX9_tape_47 (by decide) (fun c8 => ?_) (fun c8 => ?_)
    · refine aw_aload (pc := 53) C dX9_tape_53 0 rfl ?_
      refine aw_iload_n (pc := 55) C dX9_tape_55 rfl 3 rfl ?_
      refine aw_iload_n (pc := 56) C dX9_tape_56 rfl 4 rfl ?_
      refine aw_callVV (pc := 57) (c := 7) (As := [.int a2, .int a3]) (rest := []) (c' := 0) (s' := 0) C hE rfl (by decide) cal_X7_become ml_X9_282 rfl ⟨(Nat.le_of_ble_eq_true rfl), (Nat.le_of_ble_eq_true rfl)⟩ ⟨(Nat.le_of_ble_eq_true rfl), (Nat.le_of_ble_eq_true rfl)⟩ dX9_tape_57 (okX7_become E (kL K) v2 a2 a3 h5) rfl (Nat.le_of_ble_eq_true rfl) rfl rfl (fun _u h7 eh7 => ?_)
      refine aw_iconst (pc := 60) (v := 1) C dX9_tape_60 (by decide) ?_
      exact aw_ireturn (pc := 61) C hr rfl hz0 rfl dX9_tape_61
    refine aw_bipush (pc := 50) (v := (-14)) C dX9_tape_50 (by decide) ?_
    exact aw_ireturn (pc := 52) C hr rfl hz0 rfl dX9_tape_52
  refine aw_bipush (pc := 43) (v := (-2)) C dX9_tape_43 (by decide) ?_
  exact aw_ireturn (pc := 45) C hr rfl hz0 rfl dX9_tape_45
def rmX7_lowestBits : Room := { frames := 0, cells := 0, slots := 0, locals := 0 }
set_option maxHeartbeats 4000000 in
set_option maxRecDepth 100000 in
theorem okX7_lowestBits (E : Ev) (l : Launch) (a0 : Nat) (a1 : Int64) (h0 : Mem) : AMet E l yX7_lowestBits cX7_lowestBits 3 (some (.long)) rmX7_lowestBits [rf E a0, .long a1] h0 rvJ (fX7_lowestBits a0 a1 h0) := by
  refine am_intro (plainFor_of_name (by decide +kernel)) (Nat.le_of_ble_eq_true rfl) (fun K hKl C hr hnm hz0 => ?_)
  replace C : CxOK K E RX7 cX7_lowestBits 3 := C
  have hE : E.1 + 1 ≤ (kS K).heap.size := by omega
  unfold fX7_lowestBits
  show Aw K E _ _ _ _ _ 0 [(0, rf E a0), (1, .long a1)] [] h0 _
  refine aw_aload_n (pc := 0) C dX7_lowestBits_0 rfl 0 rfl ?_
  refine aw_getI (pc := 1) C fl_X7_9 dX7_lowestBits_1 (fun v1 ev1 => ?_)
  refine aw_case 0 (fun c2 => ?_) (fun c2 => ?_)
  · refine aw_tableIn (pc := 4) C 0 40 c2 dX7_lowestBits_4 (by decide) (by decide) rfl (by decide) ?_
    refine aw_lload_n (pc := 40) C dX7_lowestBits_40 rfl 1 rfl ?_
    refine aw_l2i (pc := 41) C dX7_lowestBits_41 ?_
    refine aw_i2b (pc := 42) C dX7_lowestBits_42 ?_
    refine aw_i2l (pc := 43) C dX7_lowestBits_43 ?_
    exact aw_lreturn (pc := 44) C hr hz0 rfl dX7_lowestBits_44
  refine aw_case 1 (fun c3 => ?_) (fun c3 => ?_)
  · refine aw_tableIn (pc := 4) C 1 45 c3 dX7_lowestBits_4 (by decide) (by decide) rfl (by decide) ?_
    refine aw_lload_n (pc := 45) C dX7_lowestBits_45 rfl 1 rfl ?_
    refine aw_l2i (pc := 46) C dX7_lowestBits_46 ?_
    refine aw_i2s (pc := 47) C dX7_lowestBits_47 ?_
    refine aw_i2l (pc := 48) C dX7_lowestBits_48 ?_
    exact aw_lreturn (pc := 49) C hr hz0 rfl dX7_lowestBits_49
  refine aw_case 2 (fun c4 => ?_) (fun c4 => ?_)
  · refine aw_tableIn (pc := 4) C 2 50 c4 dX7_lowestBits_4 (by decide) (by decide) rfl (by decide) ?_
    refine aw_lload_n (pc := 50) C dX7_lowestBits_50 rfl 1 rfl ?_
    refine aw_l2i (pc := 51) C dX7_lowestBits_51 ?_
    refine aw_i2l (pc := 52) C dX7_lowestBits_52 ?_
    exact aw_lreturn (pc := 53) C hr hz0 rfl dX7_lowestBits_53
  refine aw_case 3 (fun c5 => ?_) (fun c5 => ?_)
  · refine aw_tableIn (pc := 4) C 3 66 c5 dX7_lowestBits_4 (by decide) (by decide) rfl (by decide) ?_
    refine aw_lload_n (pc := 66) C dX7_lowestBits_66 rfl 1 rfl ?_
    exact aw_lreturn (pc := 67) C hr hz0 rfl dX7_lowestBits_67
  refine aw_case 4 (fun c6 => ?_) (fun c6 => ?_)
  · refine aw_tableIn (pc := 4) C 4 54 c6 dX7_lowestBits_4 (by decide) (by decide) rfl (by decide) ?_
    refine aw_lload_n (pc := 54) C dX7_lowestBits_54 rfl 1 rfl ?_
    refine aw_lconst (pc := 55) (v := 0) C dX7_lowestBits_55 (by decide) ?_
    refine aw_lcmp (pc := 56) C dX7_lowestBits_56 ?_
    refine aw_if_eq (pc := 57) C 64 dX7_lowestBits_57 (by decide) (fun c7 => ?_) (fun c7 => ?_)
    · refine aw_lconst (pc := 64) (v := 0) C dX7_lowestBits_64 (by decide) ?_
      exact aw_lreturn (pc := 65) C hr hz0 rfl dX7_lowestBits_65
    refine aw_lconst (pc := 60) (v := 1) C dX7_lowestBits_60 (by decide) ?_
    refine aw_goto (pc := 61) C 65 dX7_lowestBits_61 (by decide) ?_
    exact aw_lreturn (pc := 65) C hr hz0 rfl dX7_lowestBits_65
  refine aw_tableOut (pc := 4) C 66 dX7_lowestBits_4 (by have qc2 := lv_neT c2 (show (0 : Int32).toInt = 0 by decide); have qc3 := lv_neT c3 (show (1 : Int32).toInt = 1 by decide); have qc4 := lv_neT c4 (show (2 : Int32).toInt = 2 by decide); have qc5 := lv_neT c5 (show (3 : Int32).toInt = 3 by decide); have qc6 := lv_neT c6 (show (4 : Int32).toInt = 4 by decide); omega) (by decide) ?_
  refine aw_lload_n (pc := 66) C dX7_lowestBits_66 rfl 1 rfl ?_
  exact aw_lreturn (pc := 67) C hr hz0 rfl dX7_lowestBits_67
def rmX7_set : Room := { frames := 1, cells := 0, slots := 0, locals := 22 }
set_option maxHeartbeats 4000000 in
set_option maxRecDepth 100000 in
theorem okX7_set (E : Ev) (l : Launch) (a0 : Nat) (a1 : Int32) (a2 : Int64) (h0 : Mem) : AMet E l yX7_set cX7_set 4 none rmX7_set [rf E a0, .int a1, .long a2] h0 rvV (fX7_set a0 a1 a2 h0) := by
  refine am_intro (plainFor_of_name (by decide +kernel)) (Nat.le_of_ble_eq_true rfl) (fun K hKl C hr hnm hz0 => ?_)
  replace C : CxOK K E RX7 cX7_set 4 := C
  have hE : E.1 + 1 ≤ (kS K).heap.size := by omega
  unfold fX7_set
  show Aw K E _ _ _ _ _ 0 [(0, rf E a0), (1, .int a1), (2, .long a2)] [] h0 _
  refine aw_aload_n (pc := 0) C dX7_set_0 rfl 0 rfl ?_
  refine aw_iload_n (pc := 1) C dX7_set_1 rfl 1 rfl ?_
  refine aw_callVI (pc := 2) (c := 7) (As := [.int a1]) (rest := []) (c' := 0) (s' := 0) C hE rfl (by decide) cal_X7_has ml_X7_37 rfl ⟨(Nat.le_of_ble_eq_true rfl), (Nat.le_of_ble_eq_true rfl)⟩ ⟨(Nat.le_of_ble_eq_true rfl), (Nat.le_of_ble_eq_true rfl)⟩ dX7_set_2 (okX7_has E (kL K) a0 a1 h0) rfl (Nat.le_of_ble_eq_true rfl) rfl rfl (fun v2 h1 eh1 => ?_)
  refine aw_if_eq (pc := 5) C 19 dX7_set_5 (by decide) (fun c7 => ?_) (fun c7 => ?_)
  · exact aw_return (pc := 19) C hr hz0 rfl dX7_set_19
  refine aw_aload_n (pc := 8) C dX7_set_8 rfl 0 rfl ?_
  refine aw_getR (pc := 9) C fl_X7_15 dX7_set_9 (fun v3 ev3 => ?_)
  refine aw_iload_n (pc := 12) C dX7_set_12 rfl 1 rfl ?_
  refine aw_aload_n (pc := 13) C dX7_set_13 rfl 0 rfl ?_
  refine aw_lload_n (pc := 14) C dX7_set_14 rfl 2 rfl ?_
  refine aw_callVJ (pc := 15) (c := 7) (As := [.long a2]) (rest := [.int a1, rf E v3]) (c' := 0) (s' := 0) C hE rfl (by decide) cal_X7_lowestBits ml_X7_41 rfl ⟨(Nat.le_of_ble_eq_true rfl), (Nat.le_of_ble_eq_true rfl)⟩ ⟨(Nat.le_of_ble_eq_true rfl), (Nat.le_of_ble_eq_true rfl)⟩ dX7_set_15 (okX7_lowestBits E (kL K) a0 a2 h1) rfl (Nat.le_of_ble_eq_true rfl) rfl rfl (fun v5 h4 eh4 => ?_)
  refine aw_lastore (pc := 18) C dX7_set_18 (fun h6 eh6 => ?_)
  exact aw_return (pc := 19) C hr hz0 rfl dX7_set_19
def rmX9_item : Room := { frames := 2, cells := 0, slots := 0, locals := 45 }
set_option maxHeartbeats 4000000 in
set_option maxRecDepth 100000 in
theorem okX9_item (E : Ev) (l : Launch) (a0 : Nat) (a1 : Int32) (a2 : Int32) (a3 : Int64) (h0 : Mem) : AMet E l yX9_item cX9_item 6 (some (.int)) rmX9_item [rf E a0, .int a1, .int a2, .long a3] h0 rvI (fX9_item a0 a1 a2 a3 h0) := by
  refine am_intro (plainFor_of_name (by decide +kernel)) (Nat.le_of_ble_eq_true rfl) (fun K hKl C hr hnm hz0 => ?_)
  replace C : CxOK K E RX9 cX9_item 6 := C
  have hE : E.1 + 1 ≤ (kS K).heap.size := by omega
  unfold fX9_item
  show Aw K E _ _ _ _ _ 0 [(0, rf E a0), (1, .int a1), (2, .int a2), (3, .long a3)] [] h0 _
  refine aw_aload_n (pc := 0) C dX9_item_0 rfl 0 rfl ?_
  refine aw_iload_n (pc := 1) C dX9_item_1 rfl 1 rfl ?_
  refine aw_callVR (pc := 2) (c := 9) (As := [.int a1]) (rest := []) (c' := 0) (s' := 0) C hE rfl (by decide) cal_X9_tapeAt ml_X9_265 rfl ⟨(Nat.le_of_ble_eq_true rfl), (Nat.le_of_ble_eq_true rfl)⟩ ⟨(Nat.le_of_ble_eq_true rfl), (Nat.le_of_ble_eq_true rfl)⟩ dX9_item_2 (okX9_tapeAt E (kL K) a0 a1 h0) rfl (Nat.le_of_ble_eq_true rfl) rfl rfl (fun h3 eh3 => ?_) (fun v2 h1 ev2 nv2 => ?_)
  · refine aw_astoreN (pc := 5) (L' := [(5, .null), (0, rf E a0), (1, .int a1), (2, .int a2), (3, .long a3)]) C dX9_item_5 (by decide) rfl ?_
    refine aw_aloadN (pc := 7) C dX9_item_7 0 rfl ?_
    refine aw_ifnonnull_f (pc := 9) C dX9_item_9 ?_
    refine aw_iconst (pc := 12) (v := (-1)) C dX9_item_12 (by decide) ?_
    exact aw_ireturn (pc := 13) C hr rfl hz0 rfl dX9_item_13
  refine aw_astore (pc := 5) (L' := [(5, rf E v2), (0, rf E a0), (1, .int a1), (2, .int a2), (3, .long a3)]) C dX9_item_5 (by decide) rfl ?_
  refine aw_aload (pc := 7) C dX9_item_7 0 rfl ?_
  refine aw_ifnonnull_t (pc := 9) C 14 dX9_item_9 (by decide) ?_
  refine aw_aload (pc := 14) C dX9_item_14 0 rfl ?_
  refine aw_callVI (pc := 16) (c := 7) (As := []) (rest := []) (c' := 0) (s' := 0) C hE rfl (by decide) cal_X7_holdsNothing ml_X9_269 rfl ⟨(Nat.le_of_ble_eq_true rfl), (Nat.le_of_ble_eq_true rfl)⟩ ⟨(Nat.le_of_ble_eq_true rfl), (Nat.le_of_ble_eq_true rfl)⟩ dX9_item_16 (okX7_holdsNothing E (kL K) v2 h1) rfl (Nat.le_of_ble_eq_true rfl) rfl rfl (fun v5 h4 eh4 => ?_)
  refine aw_if_eq (pc := 19) C 25 dX9_item_19 (by decide) (fun c10 => ?_) (fun c10 => ?_)
  · refine aw_aload (pc := 25) C dX9_item_25 0 rfl ?_
    refine aw_iload_n (pc := 27) C dX9_item_27 rfl 3 rfl ?_
    refine aw_callVI (pc := 28) (c := 7) (As := [.int a2]) (rest := []) (c' := 0) (s' := 0) C hE rfl (by decide) cal_X7_has ml_X9_276 rfl ⟨(Nat.le_of_ble_eq_true rfl), (Nat.le_of_ble_eq_true rfl)⟩ ⟨(Nat.le_of_ble_eq_true rfl), (Nat.le_of_ble_eq_true rfl)⟩ dX9_item_28 (okX7_has E (kL K) v2 a2 h4) rfl (Nat.le_of_ble_eq_true rfl) rfl rfl (fun v7 h6 eh6 => ?_)
    refine aw_if_ne (pc := 31) C 37 dX9_item_31 (by decide) (fun c9 => ?_) (fun c9 => ?_)
    · refine aw_bipush (pc := 34) (v := (-13)) C dX9_item_34 (by decide) ?_
      exact aw_ireturn (pc := 36) C hr rfl hz0 rfl dX9_item_36
    refine aw_aload (pc := 37) C dX9_item_37 0 rfl ?_
    refine aw_iload_n (pc := 39) C dX9_item_39 rfl 3 rfl ?_
    refine aw_lload_n (pc := 40) C dX9_item_40 rfl 4 rfl ?_
    refine aw_callVV (pc := 41) (c := 7) (As := [.int a2, .long a3]) (rest := []) (c' := 0) (s' := 0) C hE rfl (by decide) cal_X7_set ml_X9_285 rfl ⟨(Nat.le_of_ble_eq_true rfl), (Nat.le_of_ble_eq_true rfl)⟩ ⟨(Nat.le_of_ble_eq_true rfl), (Nat.le_of_ble_eq_true rfl)⟩ dX9_item_41 (okX7_set E (kL K) v2 a2 a3 h6) rfl (Nat.le_of_ble_eq_true rfl) rfl rfl (fun _u h8 eh8 => ?_)
    refine aw_iconst (pc := 44) (v := 1) C dX9_item_44 (by decide) ?_
    exact aw_ireturn (pc := 45) C hr rfl hz0 rfl dX9_item_45
  refine aw_bipush (pc := 22) (v := (-11)) C dX9_item_22 (by decide) ?_
  exact aw_ireturn (pc := 24) C hr rfl hz0 rfl dX9_item_24
def rmX9_peek : Room := { frames := 2, cells := 0, slots := 0, locals := 42 }
set_option maxHeartbeats 4000000 in
set_option maxRecDepth 100000 in
theorem okX9_peek (E : Ev) (l : Launch) (a0 : Nat) (a1 : Int32) (a2 : Int32) (h0 : Mem) : AMet E l yX9_peek cX9_peek 4 (some (.long)) rmX9_peek [rf E a0, .int a1, .int a2] h0 rvJ (fX9_peek a0 a1 a2 h0) := by
  refine am_intro (plainFor_of_name (by decide +kernel)) (Nat.le_of_ble_eq_true rfl) (fun K hKl C hr hnm hz0 => ?_)
  replace C : CxOK K E RX9 cX9_peek 4 := C
  have hE : E.1 + 1 ≤ (kS K).heap.size := by omega
  unfold fX9_peek
  show Aw K E _ _ _ _ _ 0 [(0, rf E a0), (1, .int a1), (2, .int a2)] [] h0 _
  refine aw_aload_n (pc := 0) C dX9_peek_0 rfl 0 rfl ?_
  refine aw_iload_n (pc := 1) C dX9_peek_1 rfl 1 rfl ?_
  refine aw_callVR (pc := 2) (c := 9) (As := [.int a1]) (rest := []) (c' := 0) (s' := 0) C hE rfl (by decide) cal_X9_tapeAt ml_X9_265 rfl ⟨(Nat.le_of_ble_eq_true rfl), (Nat.le_of_ble_eq_true rfl)⟩ ⟨(Nat.le_of_ble_eq_true rfl), (Nat.le_of_ble_eq_true rfl)⟩ dX9_peek_2 (okX9_tapeAt E (kL K) a0 a1 h0) rfl (Nat.le_of_ble_eq_true rfl) rfl rfl (fun h3 eh3 => ?_) (fun v2 h1 ev2 nv2 => ?_)
  · refine aw_astore_nN (pc := 5) (L' := [(3, .null), (0, rf E a0), (1, .int a1), (2, .int a2)]) C dX9_peek_5 rfl (by decide) rfl ?_
    refine aw_aload_nN (pc := 6) C dX9_peek_6 rfl 0 rfl ?_
    refine aw_ifnull_t (pc := 7) C 26 dX9_peek_7 (by decide) ?_
    refine aw_ldc2 (pc := 26) (v := (-9223372036854775808)) C kc_X9_163 dX9_peek_26 ?_
    exact aw_lreturn (pc := 29) C hr hz0 rfl dX9_peek_29
  refine aw_astore_n (pc := 5) (L' := [(3, rf E v2), (0, rf E a0), (1, .int a1), (2, .int a2)]) C dX9_peek_5 rfl (by decide) rfl ?_
  refine aw_aload_n (pc := 6) C dX9_peek_6 rfl 0 rfl ?_
  refine aw_ifnull_f (pc := 7) C dX9_peek_7 ?_
  refine aw_aload_n (pc := 10) C dX9_peek_10 rfl 0 rfl ?_
  refine aw_iload_n (pc := 11) C dX9_peek_11 rfl 3 rfl ?_
  refine aw_callVI (pc := 12) (c := 7) (As := [.int a2]) (rest := []) (c' := 0) (s' := 0) C hE rfl (by decide) cal_X7_has ml_X9_276 rfl ⟨(Nat.le_of_ble_eq_true rfl), (Nat.le_of_ble_eq_true rfl)⟩ ⟨(Nat.le_of_ble_eq_true rfl), (Nat.le_of_ble_eq_true rfl)⟩ dX9_peek_12 (okX7_has E (kL K) v2 a2 h1) rfl (Nat.le_of_ble_eq_true rfl) rfl rfl (fun v5 h4 eh4 => ?_)
  refine aw_if_eq (pc := 15) C 26 dX9_peek_15 (by decide) (fun c8 => ?_) (fun c8 => ?_)
  · refine aw_ldc2 (pc := 26) (v := (-9223372036854775808)) C kc_X9_163 dX9_peek_26 ?_
    exact aw_lreturn (pc := 29) C hr hz0 rfl dX9_peek_29
  refine aw_aload_n (pc := 18) C dX9_peek_18 rfl 0 rfl ?_
  refine aw_iload_n (pc := 19) C dX9_peek_19 rfl 3 rfl ?_
  refine aw_callVJ (pc := 20) (c := 7) (As := [.int a2]) (rest := []) (c' := 0) (s' := 0) C hE rfl (by decide) cal_X7_get ml_X9_277 rfl ⟨(Nat.le_of_ble_eq_true rfl), (Nat.le_of_ble_eq_true rfl)⟩ ⟨(Nat.le_of_ble_eq_true rfl), (Nat.le_of_ble_eq_true rfl)⟩ dX9_peek_20 (okX7_get E (kL K) v2 a2 h4) rfl (Nat.le_of_ble_eq_true rfl) rfl rfl (fun v7 h6 eh6 => ?_)
  refine aw_goto (pc := 23) C 29 dX9_peek_23 (by decide) ?_
  exact aw_lreturn (pc := 29) C hr hz0 rfl dX9_peek_29
