def rmX10_goesOn : Room := { frames := 1, cells := 0, slots := 0, locals := 25 }
set_option maxHeartbeats 4000000 in
set_option maxRecDepth 100000 in
theorem okX10_goesOn (E : Ev) (l : Launch) (a0 : Nat) (a1 : Int32) (h0 : Mem) : AMet E l yX10_goesOn cX10_goesOn 4 (some (.boolean)) rmX10_goesOn [rf E a0, .int a1] h0 rvI (fX10_goesOn a0 a1 h0) := by
  refine am_intro (plainFor_of_name (by decide +kernel)) (Nat.le_of_ble_eq_true rfl) (fun K hKl C hr hnm hz0 => ?_)
  replace C : CxOK K E RX10 cX10_goesOn 4 := C
  have hE : E.1 + 1 ≤ (kS K).heap.size := by omega
  unfold fX10_goesOn
  show Aw K E _ _ _ _ _ 0 [(0, rf E a0), (1, .int a1)] [] h0 _
  refine aw_iconst (pc := 0) (v := 0) C dX10_goesOn_0 (by decide) ?_
  refine aw_istore_n (pc := 1) (L' := [(2, .int 0), (0, rf E a0), (1, .int a1)]) C dX10_goesOn_1 rfl (by decide) rfl ?_
  refine aw_sub (L' := [(0, rf E a0), (1, .int a1), (2, .int 0)]) [1, 2, 0] rfl ?_
  refine aw_loop (pc := 2) (σ := Int32 × Mem) (fun s => [(0, rf E a0), (1, .int a1), (2, .int s.1)]) (fun s => s.2) _ (fun k3 ih4 s => ?_) _ _
  obtain ⟨v1, h2⟩ := s
  show Aw K E _ _ _ _ _ 2 [(0, rf E a0), (1, .int a1), (2, .int v1)] [] h2 _
  refine aw_iload_n (pc := 2) C dX10_goesOn_2 rfl 2 rfl ?_
  refine aw_aload_n (pc := 3) C dX10_goesOn_3 rfl 0 rfl ?_
  refine aw_getI (pc := 4) C fl_X10_9 dX10_goesOn_4 (fun v5 ev5 => ?_)
  refine aw_icmp_gt (pc := 7) C 23 dX10_goesOn_7 (by decide) (fun c51 => ?_) (fun c51 => ?_)
  · refine aw_iconst (pc := 23) (v := 0) C dX10_goesOn_23 (by decide) ?_
    refine aw_istore_n (pc := 24) (L' := [(2, .int 0), (0, rf E a0), (1, .int a1)]) C dX10_goesOn_24 rfl (by decide) rfl ?_
    refine aw_sub (L' := [(0, rf E a0), (1, .int a1), (2, .int 0)]) [1, 2, 0] rfl ?_
    refine aw_loop (pc := 25) (σ := Int32 × Mem) (fun s => [(0, rf E a0), (1, .int a1), (2, .int s.1)]) (fun s => s.2) _ (fun k11 ih12 s => ?_) _ _
    obtain ⟨v9, h10⟩ := s
    show Aw K E _ _ _ _ _ 25 [(0, rf E a0), (1, .int a1), (2, .int v9)] [] h10 _
    refine aw_iload_n (pc := 25) C dX10_goesOn_25 rfl 2 rfl ?_
    refine aw_aload_n (pc := 26) C dX10_goesOn_26 rfl 0 rfl ?_
    refine aw_getI (pc := 27) C fl_X10_9 dX10_goesOn_27 (fun v13 ev13 => ?_)
    refine aw_icmp_gt (pc := 30) C 91 dX10_goesOn_30 (by decide) (fun c50 => ?_) (fun c50 => ?_)
    · refine aw_iconst (pc := 91) (v := 1) C dX10_goesOn_91 (by decide) ?_
      refine aw_istore_n (pc := 92) (L' := [(2, .int 1), (0, rf E a0), (1, .int a1)]) C dX10_goesOn_92 rfl (by decide) rfl ?_
      refine aw_iconst (pc := 93) (v := 0) C dX10_goesOn_93 (by decide) ?_
      refine aw_istore_n (pc := 94) (L' := [(3, .int 0), (2, .int 1), (0, rf E a0), (1, .int a1)]) C dX10_goesOn_94 rfl (by decide) rfl ?_
      refine aw_sub (L' := [(0, rf E a0), (2, .int 1), (3, .int 0)]) [2, 1, 0] rfl ?_
      refine aw_loop (pc := 95) (σ := Int32 × Int32 × Mem) (fun s => [(0, rf E a0), (2, .int s.1), (3, .int s.2.1)]) (fun s => s.2.2) _ (fun k36 ih37 s => ?_) _ _
      obtain ⟨v33, v34, h35⟩ := s
      show Aw K E _ _ _ _ _ 95 [(0, rf E a0), (2, .int v33), (3, .int v34)] [] h35 _
      refine aw_iload_n (pc := 95) C dX10_goesOn_95 rfl 2 rfl ?_
      refine aw_aload_n (pc := 96) C dX10_goesOn_96 rfl 0 rfl ?_
      refine aw_getI (pc := 97) C fl_X10_9 dX10_goesOn_97 (fun v38 ev38 => ?_)
      refine aw_icmp_gt (pc := 100) C 139 dX10_goesOn_100 (by decide) (fun c49 => ?_) (fun c49 => ?_)
      · refine aw_iload_n (pc := 139) C dX10_goesOn_139 rfl 1 rfl ?_
        exact aw_zreturn (pc := 140) C hr hz0 rfl dX10_goesOn_140
      refine aw_aload_n (pc := 103) C dX10_goesOn_103 rfl 0 rfl ?_
      refine aw_getR (pc := 104) C fl_X10_63 dX10_goesOn_104 (fun v39 ev39 => ?_)
      refine aw_iload_n (pc := 107) C dX10_goesOn_107 rfl 2 rfl ?_
      refine aw_aload_n (pc := 108) C dX10_goesOn_108 rfl 0 rfl ?_
      refine aw_getR (pc := 109) C fl_X10_66 dX10_goesOn_109 (fun v40 ev40 => ?_)
      refine aw_iload_n (pc := 112) C dX10_goesOn_112 rfl 2 rfl ?_
      refine aw_laload (pc := 113) C dX10_goesOn_113 (fun v41 ev41 => ?_)
      refine aw_lastore (pc := 114) C dX10_goesOn_114 (fun h42 eh42 => ?_)
      refine aw_iload_n (pc := 115) C dX10_goesOn_115 rfl 1 rfl ?_
      refine aw_aload_n (pc := 116) C dX10_goesOn_116 rfl 0 rfl ?_
      refine aw_getR (pc := 117) C fl_X10_63 dX10_goesOn_117 (fun v43 ev43 => ?_)
      refine aw_iload_n (pc := 120) C dX10_goesOn_120 rfl 2 rfl ?_
      refine aw_laload (pc := 121) C dX10_goesOn_121 (fun v44 ev44 => ?_)
      refine aw_ldc2 (pc := 122) (v := (-1000000000)) C kc_X10_190 dX10_goesOn_122 ?_
      refine aw_ldc2 (pc := 125) (v := 1000000000) C kc_X10_192 dX10_goesOn_125 ?_
      refine aw_callSI (pc := 128) (R := rmX10_goesOn) (As := [.long v44, .long (-1000000000), .long 1000000000]) (rest := [.int v33]) (st := [.long 1000000000, .long (-1000000000), .long v44, .int v33]) (c' := 0) (s' := 0) C hE cal_X10_in ml_X10_96 rfl ⟨(Nat.le_of_ble_eq_true rfl), (Nat.le_of_ble_eq_true rfl)⟩ ⟨(Nat.le_of_ble_eq_true rfl), (Nat.le_of_ble_eq_true rfl)⟩ dX10_goesOn_128 (okX10_in E (kL K) v44 (-1000000000) 1000000000 h42) rfl (Nat.le_of_ble_eq_true rfl) rfl rfl (fun v46 h45 eh45 => ?_)
      refine aw_iand (pc := 131) C dX10_goesOn_131 ?_
      refine aw_nmI (pc := 132) (fun v47 ev47 => ?_)
      refine aw_istore_n (pc := 132) (L' := [(2, .int v47), (0, rf E a0), (3, .int v34)]) C dX10_goesOn_132 rfl (by decide) rfl ?_
      refine aw_iincN (pc := 133) (L1 := [(2, .int v47), (0, rf E a0)]) (k := 1) C dX10_goesOn_133 2 rfl (by decide) (by decide) rfl (fun v48 ev48 => ?_)
      refine aw_goto (pc := 136) C 95 dX10_goesOn_136 (by decide) ?_
      exact aw_sub (L' := [(0, rf E a0), (2, .int v47), (3, .int v48)]) [2, 1, 0] rfl (ih37 (v47, v48, h45))
    refine aw_aload_n (pc := 33) C dX10_goesOn_33 rfl 0 rfl ?_
    refine aw_getI (pc := 34) C fl_X10_9 dX10_goesOn_34 (fun v14 ev14 => ?_)
    refine aw_istore_n (pc := 37) (L' := [(3, .int v14), (0, rf E a0), (1, .int a1), (2, .int v9)]) C dX10_goesOn_37 rfl (by decide) rfl ?_
    refine aw_sub (L' := [(0, rf E a0), (1, .int a1), (2, .int v9), (3, .int v14)]) [1, 2, 3, 0] rfl ?_
    refine aw_loop (pc := 38) (σ := Int32 × Mem) (fun s => [(0, rf E a0), (1, .int a1), (2, .int v9), (3, .int s.1)]) (fun s => s.2) _ (fun k17 ih18 s => ?_) _ _
    obtain ⟨v15, h16⟩ := s
    show Aw K E _ _ _ _ _ 38 [(0, rf E a0), (1, .int a1), (2, .int v9), (3, .int v15)] [] h16 _
    refine aw_iload_n (pc := 38) C dX10_goesOn_38 rfl 3 rfl ?_
    refine aw_if_lt (pc := 39) C 85 dX10_goesOn_39 (by decide) (fun c32 => ?_) (fun c32 => ?_)
    · refine aw_iincN (pc := 85) (L1 := [(0, rf E a0), (1, .int a1), (3, .int v15)]) (k := 1) C dX10_goesOn_85 2 rfl (by decide) (by decide) rfl (fun v31 ev31 => ?_)
      refine aw_goto (pc := 88) C 25 dX10_goesOn_88 (by decide) ?_
      exact aw_sub (L' := [(0, rf E a0), (1, .int a1), (2, .int v31)]) [1, 2, 0] rfl (ih12 (v31, h16))
    refine aw_aload_n (pc := 42) C dX10_goesOn_42 rfl 0 rfl ?_
    refine aw_getR (pc := 43) C fl_X10_66 dX10_goesOn_43 (fun v19 ev19 => ?_)
    refine aw_iload_n (pc := 46) C dX10_goesOn_46 rfl 3 rfl ?_
    refine aw_iload_n (pc := 47) C dX10_goesOn_47 rfl 1 rfl ?_
    refine aw_i2l (pc := 48) C dX10_goesOn_48 ?_
    refine aw_aload_n (pc := 49) C dX10_goesOn_49 rfl 0 rfl ?_
    refine aw_getR (pc := 50) C fl_X10_66 dX10_goesOn_50 (fun v20 ev20 => ?_)
    refine aw_iload_n (pc := 53) C dX10_goesOn_53 rfl 3 rfl ?_
    refine aw_laload (pc := 54) C dX10_goesOn_54 (fun v21 ev21 => ?_)
    refine aw_lmul (pc := 55) C dX10_goesOn_55 ?_
    refine aw_iload_n (pc := 56) C dX10_goesOn_56 rfl 3 rfl ?_
    refine aw_if_le (pc := 57) C 71 dX10_goesOn_57 (by decide) (fun c30 => ?_) (fun c30 => ?_)
    · refine aw_aload_n (pc := 71) C dX10_goesOn_71 rfl 0 rfl ?_
      refine aw_getR (pc := 72) C fl_X10_63 dX10_goesOn_72 (fun v26 ev26 => ?_)
      refine aw_iload_n (pc := 75) C dX10_goesOn_75 rfl 2 rfl ?_
      refine aw_laload (pc := 76) C dX10_goesOn_76 (fun v27 ev27 => ?_)
      refine aw_ladd (pc := 77) C dX10_goesOn_77 ?_
      refine aw_lastore (pc := 78) C dX10_goesOn_78 (fun h28 eh28 => ?_)
      refine aw_iincN (pc := 79) (L1 := [(0, rf E a0), (1, .int a1), (2, .int v9)]) (k := (-1)) C dX10_goesOn_79 3 rfl (by decide) (by decide) rfl (fun v29 ev29 => ?_)
      refine aw_goto (pc := 82) C 38 dX10_goesOn_82 (by decide) ?_
      exact aw_sub (L' := [(0, rf E a0), (1, .int a1), (2, .int v9), (3, .int v29)]) [1, 2, 3, 0] rfl (ih18 (v29, h28))
    refine aw_aload_n (pc := 60) C dX10_goesOn_60 rfl 0 rfl ?_
    refine aw_getR (pc := 61) C fl_X10_66 dX10_goesOn_61 (fun v22 ev22 => ?_)
    refine aw_iload_n (pc := 64) C dX10_goesOn_64 rfl 3 rfl ?_
    refine aw_iconst (pc := 65) (v := 1) C dX10_goesOn_65 (by decide) ?_
    refine aw_isub (pc := 66) C dX10_goesOn_66 ?_
    refine aw_laload (pc := 67) C dX10_goesOn_67 (fun v23 ev23 => ?_)
    refine aw_goto (pc := 68) C 77 dX10_goesOn_68 (by decide) ?_
    refine aw_ladd (pc := 77) C dX10_goesOn_77 ?_
    refine aw_lastore (pc := 78) C dX10_goesOn_78 (fun h24 eh24 => ?_)
    refine aw_iincN (pc := 79) (L1 := [(0, rf E a0), (1, .int a1), (2, .int v9)]) (k := (-1)) C dX10_goesOn_79 3 rfl (by decide) (by decide) rfl (fun v25 ev25 => ?_)
    refine aw_goto (pc := 82) C 38 dX10_goesOn_82 (by decide) ?_
    exact aw_sub (L' := [(0, rf E a0), (1, .int a1), (2, .int v9), (3, .int v25)]) [1, 2, 3, 0] rfl (ih18 (v25, h24))
  refine aw_aload_n (pc := 10) C dX10_goesOn_10 rfl 0 rfl ?_
  refine aw_getR (pc := 11) C fl_X10_66 dX10_goesOn_11 (fun v6 ev6 => ?_)
  refine aw_iload_n (pc := 14) C dX10_goesOn_14 rfl 2 rfl ?_
  refine aw_lconst (pc := 15) (v := 0) C dX10_goesOn_15 (by decide) ?_
  refine aw_lastore (pc := 16) C dX10_goesOn_16 (fun h7 eh7 => ?_)
  refine aw_iincN (pc := 17) (L1 := [(0, rf E a0), (1, .int a1)]) (k := 1) C dX10_goesOn_17 2 rfl (by decide) (by decide) rfl (fun v8 ev8 => ?_)
  refine aw_goto (pc := 20) C 2 dX10_goesOn_20 (by decide) ?_
  exact aw_sub (L' := [(0, rf E a0), (1, .int a1), (2, .int v8)]) [1, 2, 0] rfl (ih4 (v8, h7))
def rmX10_tellsParts : Room := { frames := 2, cells := 0, slots := 0, locals := 51 }
set_option maxHeartbeats 4000000 in
set_option maxRecDepth 100000 in
theorem okX10_tellsParts (E : Ev) (l : Launch) (a0 : Nat) (h0 : Mem) : AMet E l yX10_tellsParts cX10_tellsParts 3 none rmX10_tellsParts [rf E a0] h0 rvV (fX10_tellsParts a0 h0) := by
  refine am_intro (plainFor_of_name (by decide +kernel)) (Nat.le_of_ble_eq_true rfl) (fun K hKl C hr hnm hz0 => ?_)
  replace C : CxOK K E RX10 cX10_tellsParts 3 := C
  have hE : E.1 + 1 ≤ (kS K).heap.size := by omega
  unfold fX10_tellsParts
  show Aw K E _ _ _ _ _ 0 [(0, rf E a0)] [] h0 _
  refine aw_iconst (pc := 0) (v := 0) C dX10_tellsParts_0 (by decide) ?_
  refine aw_istore_n (pc := 1) (L' := [(1, .int 0), (0, rf E a0)]) C dX10_tellsParts_1 rfl (by decide) rfl ?_
  refine aw_sub (L' := [(0, rf E a0), (1, .int 0)]) [1, 0] rfl ?_
  refine aw_loop (pc := 2) (σ := Int32 × Mem) (fun s => [(0, rf E a0), (1, .int s.1)]) (fun s => s.2) _ (fun k3 ih4 s => ?_) _ _
  obtain ⟨v1, h2⟩ := s
  show Aw K E _ _ _ _ _ 2 [(0, rf E a0), (1, .int v1)] [] h2 _
  refine aw_iload_n (pc := 2) C dX10_tellsParts_2 rfl 1 rfl ?_
  refine aw_aload_n (pc := 3) C dX10_tellsParts_3 rfl 0 rfl ?_
  refine aw_getI (pc := 4) C fl_X10_9 dX10_tellsParts_4 (fun v5 ev5 => ?_)
  refine aw_icmp_gt (pc := 7) C 28 dX10_tellsParts_7 (by decide) (fun c42 => ?_) (fun c42 => ?_)
  · refine aw_aload_n (pc := 28) C dX10_tellsParts_28 rfl 0 rfl ?_
    refine aw_iconst (pc := 29) (v := 0) C dX10_tellsParts_29 (by decide) ?_
    refine aw_putI (pc := 30) C fw_X10_194 rfl rfl dX10_tellsParts_30 (fun h11 eh11 => ?_)
    refine aw_iconst (pc := 33) (v := 1) C dX10_tellsParts_33 (by decide) ?_
    refine aw_istore_n (pc := 34) (L' := [(1, .int 1), (0, rf E a0)]) C dX10_tellsParts_34 rfl (by decide) rfl ?_
    refine aw_sub (L' := [(0, rf E a0), (1, .int 1)]) [1, 0] rfl ?_
    refine aw_loop (pc := 35) (σ := Int32 × Mem) (fun s => [(0, rf E a0), (1, .int s.1)]) (fun s => s.2) _ (fun k14 ih15 s => ?_) _ _
    obtain ⟨v12, h13⟩ := s
    show Aw K E _ _ _ _ _ 35 [(0, rf E a0), (1, .int v12)] [] h13 _
    refine aw_iload_n (pc := 35) C dX10_tellsParts_35 rfl 1 rfl ?_
    refine aw_if_eq (pc := 36) C 127 dX10_tellsParts_36 (by decide) (fun c41 => ?_) (fun c41 => ?_)
    · exact aw_return (pc := 127) C hr hz0 rfl dX10_tellsParts_127
    refine aw_aload_n (pc := 39) C dX10_tellsParts_39 rfl 0 rfl ?_
    refine aw_getI (pc := 40) C fl_X10_194 dX10_tellsParts_40 (fun v16 ev16 => ?_)
    refine aw_bipush (pc := 43) (v := 8) C dX10_tellsParts_43 (by decide) ?_
    refine aw_icmp_ge (pc := 45) C 127 dX10_tellsParts_45 (by decide) (fun c40 => ?_) (fun c40 => ?_)
    · exact aw_return (pc := 127) C hr hz0 rfl dX10_tellsParts_127
    refine aw_aload_n (pc := 48) C dX10_tellsParts_48 rfl 0 rfl ?_
    refine aw_aload_n (pc := 49) C dX10_tellsParts_49 rfl 0 rfl ?_
    refine aw_getI (pc := 50) C fl_X10_194 dX10_tellsParts_50 (fun v17 ev17 => ?_)
    refine aw_jn (σ := Int32) 61 (fun s => [(0, rf E a0)]) (fun s => [.int s, rf E a0]) (fun s => h13) (fun s => ?_) (fun k19 jk20 => ?_)
    · generalize s = v18
      show Aw K E _ _ _ _ _ 61 [(0, rf E a0)] [.int v18, rf E a0] h13 _
      refine aw_callVI (pc := 61) (R := rmX10_tellsParts) (c := 10) (As := [.int v18]) (rest := []) (st := [.int v18, rf E a0]) (c' := 0) (s' := 0) C hE rfl (by decide) cal_X10_greatest ml_X10_197 rfl ⟨(Nat.le_of_ble_eq_true rfl), (Nat.le_of_ble_eq_true rfl)⟩ ⟨(Nat.le_of_ble_eq_true rfl), (Nat.le_of_ble_eq_true rfl)⟩ dX10_tellsParts_61 (okX10_greatest E (kL K) a0 v18 h13) rfl (Nat.le_of_ble_eq_true rfl) rfl rfl (fun v22 h21 eh21 => ?_)
      refine aw_istore_n (pc := 64) (L' := [(2, .int v22), (0, rf E a0)]) C dX10_tellsParts_64 rfl (by decide) rfl ?_
      refine aw_iload_n (pc := 65) C dX10_tellsParts_65 rfl 0 rfl ?_
      refine aw_jn (σ := Int32) 74 (fun s => [(0, rf E a0), (2, .int v22)]) (fun s => [.int s]) (fun s => h21) (fun s => ?_) (fun k24 jk25 => ?_)
      · generalize s = v23
        show Aw K E _ _ _ _ _ 74 [(0, rf E a0), (2, .int v22)] [.int v23] h21 _
        refine aw_istore_n (pc := 74) (L' := [(1, .int v23), (0, rf E a0), (2, .int v22)]) C dX10_tellsParts_74 rfl (by decide) rfl ?_
        refine aw_iload_n (pc := 75) C dX10_tellsParts_75 rfl 0 rfl ?_
        refine aw_if_eq (pc := 76) C 124 dX10_tellsParts_76 (by decide) (fun c37 => ?_) (fun c37 => ?_)
        · refine aw_goto (pc := 124) C 35 dX10_tellsParts_124 (by decide) ?_
          exact aw_sub (L' := [(0, rf E a0), (1, .int v23)]) [1, 0] rfl (ih15 (v23, h21))
        refine aw_aload_n (pc := 79) C dX10_tellsParts_79 rfl 1 rfl ?_
        refine aw_getR (pc := 80) C fl_X10_69 dX10_tellsParts_80 (fun v26 ev26 => ?_)
        refine aw_aload_n (pc := 83) C dX10_tellsParts_83 rfl 1 rfl ?_
        refine aw_getI (pc := 84) C fl_X10_194 dX10_tellsParts_84 (fun v27 ev27 => ?_)
        refine aw_iload_n (pc := 87) C dX10_tellsParts_87 rfl 2 rfl ?_
        refine aw_iastore (pc := 88) C dX10_tellsParts_88 (fun h28 eh28 => ?_)
        refine aw_aload_n (pc := 89) C dX10_tellsParts_89 rfl 1 rfl ?_
        refine aw_dup (pc := 90) C rfl dX10_tellsParts_90 ?_
        refine aw_getI (pc := 91) C fl_X10_194 dX10_tellsParts_91 (fun v29 ev29 => ?_)
        refine aw_iconst (pc := 94) (v := 1) C dX10_tellsParts_94 (by decide) ?_
        refine aw_iadd (pc := 95) C dX10_tellsParts_95 ?_
        refine aw_putI (pc := 96) C fw_X10_194 rfl rfl dX10_tellsParts_96 (fun h30 eh30 => ?_)
        refine aw_aload_n (pc := 99) C dX10_tellsParts_99 rfl 1 rfl ?_
        refine aw_iload_n (pc := 100) C dX10_tellsParts_100 rfl 2 rfl ?_
        refine aw_i2l (pc := 101) C dX10_tellsParts_101 ?_
        refine aw_callVJ (pc := 102) (R := rmX10_tellsParts) (c := 10) (As := [.long v22.toInt64]) (rest := []) (st := [.long v22.toInt64, rf E a0]) (c' := 0) (s' := 0) C hE rfl (by decide) cal_X10_rowAt ml_X10_186 rfl ⟨(Nat.le_of_ble_eq_true rfl), (Nat.le_of_ble_eq_true rfl)⟩ ⟨(Nat.le_of_ble_eq_true rfl), (Nat.le_of_ble_eq_true rfl)⟩ dX10_tellsParts_102 (okX10_rowAt E (kL K) a0 v22.toInt64 h30) rfl (Nat.le_of_ble_eq_true rfl) rfl rfl (fun v32 h31 eh31 => ?_)
        refine aw_lconst (pc := 105) (v := 0) C dX10_tellsParts_105 (by decide) ?_
        refine aw_lcmp (pc := 106) C dX10_tellsParts_106 ?_
        refine aw_if_eq (pc := 107) C 122 dX10_tellsParts_107 (by decide) (fun c36 => ?_) (fun c36 => ?_)
        · refine aw_iconst (pc := 122) (v := 0) C dX10_tellsParts_122 (by decide) ?_
          refine aw_istore_n (pc := 123) (L' := [(1, .int 0), (0, rf E a0), (2, .int v22)]) C dX10_tellsParts_123 rfl (by decide) rfl ?_
          refine aw_goto (pc := 124) C 35 dX10_tellsParts_124 (by decide) ?_
          exact aw_sub (L' := [(0, rf E a0), (1, .int 0)]) [1, 0] rfl (ih15 (0, h31))
        refine aw_aload_n (pc := 110) C dX10_tellsParts_110 rfl 1 rfl ?_
        refine aw_iload_n (pc := 111) C dX10_tellsParts_111 rfl 2 rfl ?_
        refine aw_callVI (pc := 112) (R := rmX10_tellsParts) (c := 10) (As := [.int v22]) (rest := []) (st := [.int v22, rf E a0]) (c' := 0) (s' := 0) C hE rfl (by decide) cal_X10_goesOn ml_X10_200 rfl ⟨(Nat.le_of_ble_eq_true rfl), (Nat.le_of_ble_eq_true rfl)⟩ ⟨(Nat.le_of_ble_eq_true rfl), (Nat.le_of_ble_eq_true rfl)⟩ dX10_tellsParts_112 (okX10_goesOn E (kL K) a0 v22 h31) rfl (Nat.le_of_ble_eq_true rfl) rfl rfl (fun v34 h33 eh33 => ?_)
        refine aw_if_eq (pc := 115) C 122 dX10_tellsParts_115 (by decide) (fun c35 => ?_) (fun c35 => ?_)
        · refine aw_iconst (pc := 122) (v := 0) C dX10_tellsParts_122 (by decide) ?_
          refine aw_istore_n (pc := 123) (L' := [(1, .int 0), (0, rf E a0), (2, .int v22)]) C dX10_tellsParts_123 rfl (by decide) rfl ?_
          refine aw_goto (pc := 124) C 35 dX10_tellsParts_124 (by decide) ?_
          exact aw_sub (L' := [(0, rf E a0), (1, .int 0)]) [1, 0] rfl (ih15 (0, h33))
        refine aw_iconst (pc := 118) (v := 1) C dX10_tellsParts_118 (by decide) ?_
        refine aw_goto (pc := 119) C 123 dX10_tellsParts_119 (by decide) ?_
        refine aw_istore_n (pc := 123) (L' := [(1, .int 1), (0, rf E a0), (2, .int v22)]) C dX10_tellsParts_123 rfl (by decide) rfl ?_
        refine aw_goto (pc := 124) C 35 dX10_tellsParts_124 (by decide) ?_
        exact aw_sub (L' := [(0, rf E a0), (1, .int 1)]) [1, 0] rfl (ih15 (1, h33))
      refine aw_if_lt (pc := 66) C 73 dX10_tellsParts_66 (by decide) (fun c38 => ?_) (fun c38 => ?_)
      · refine aw_iconst (pc := 73) (v := 0) C dX10_tellsParts_73 (by decide) ?_
        exact aw_sub (L' := [(0, rf E a0), (2, .int v22)]) [1, 0] rfl (jk25 0)
      refine aw_iconst (pc := 69) (v := 1) C dX10_tellsParts_69 (by decide) ?_
      refine aw_goto (pc := 70) C 74 dX10_tellsParts_70 (by decide) ?_
      exact aw_sub (L' := [(0, rf E a0), (2, .int v22)]) [1, 0] rfl (jk25 1)
    refine aw_if_ne (pc := 53) C 60 dX10_tellsParts_53 (by decide) (fun c39 => ?_) (fun c39 => ?_)
    · refine aw_iconst (pc := 56) (v := 0) C dX10_tellsParts_56 (by decide) ?_
      refine aw_goto (pc := 57) C 61 dX10_tellsParts_57 (by decide) ?_
      exact aw_sub (L' := [(0, rf E a0)]) [0] rfl (jk20 0)
    refine aw_iconst (pc := 60) (v := 1) C dX10_tellsParts_60 (by decide) ?_
    exact aw_sub (L' := [(0, rf E a0)]) [0] rfl (jk20 1)
  refine aw_aload_n (pc := 10) C dX10_tellsParts_10 rfl 0 rfl ?_
  refine aw_getR (pc := 11) C fl_X10_63 dX10_tellsParts_11 (fun v6 ev6 => ?_)
  refine aw_iload_n (pc := 14) C dX10_tellsParts_14 rfl 1 rfl ?_
  refine aw_aload_n (pc := 15) C dX10_tellsParts_15 rfl 0 rfl ?_
  refine aw_getR (pc := 16) C fl_X10_15 dX10_tellsParts_16 (fun v7 ev7 => ?_)
  refine aw_iload_n (pc := 19) C dX10_tellsParts_19 rfl 1 rfl ?_
  refine aw_laload (pc := 20) C dX10_tellsParts_20 (fun v8 ev8 => ?_)
  refine aw_lastore (pc := 21) C dX10_tellsParts_21 (fun h9 eh9 => ?_)
  refine aw_iincN (pc := 22) (L1 := [(0, rf E a0)]) (k := 1) C dX10_tellsParts_22 1 rfl (by decide) (by decide) rfl (fun v10 ev10 => ?_)
  refine aw_goto (pc := 25) C 2 dX10_tellsParts_25 (by decide) ?_
  exact aw_sub (L' := [(0, rf E a0), (1, .int v10)]) [1, 0] rfl (ih4 (v10, h9))
def rmX10_tellsConvergent : Room := { frames := 0, cells := 0, slots := 0, locals := 0 }
set_option maxHeartbeats 4000000 in
set_option maxRecDepth 100000 in
theorem okX10_tellsConvergent (E : Ev) (l : Launch) (a0 : Nat) (a1 : Int32) (h0 : Mem) : AMet E l yX10_tellsConvergent cX10_tellsConvergent 11 none rmX10_tellsConvergent [rf E a0, .int a1] h0 rvV (fX10_tellsConvergent a0 a1 h0) := by
  refine am_intro (plainFor_of_name (by decide +kernel)) (Nat.le_of_ble_eq_true rfl) (fun K hKl C hr hnm hz0 => ?_)
  replace C : CxOK K E RX10 cX10_tellsConvergent 11 := C
  have hE : E.1 + 1 ≤ (kS K).heap.size := by omega
  unfold fX10_tellsConvergent
  show Aw K E _ _ _ _ _ 0 [(0, rf E a0), (1, .int a1)] [] h0 _
  refine aw_aload_n (pc := 0) C dX10_tellsConvergent_0 rfl 0 rfl ?_
  refine aw_lconst (pc := 1) (v := 1) C dX10_tellsConvergent_1 (by decide) ?_
  refine aw_putJ (pc := 2) C fw_X10_203 rfl rfl dX10_tellsConvergent_2 (fun h1 eh1 => ?_)
  refine aw_aload_n (pc := 5) C dX10_tellsConvergent_5 rfl 0 rfl ?_
  refine aw_lconst (pc := 6) (v := 0) C dX10_tellsConvergent_6 (by decide) ?_
  refine aw_putJ (pc := 7) C fw_X10_207 rfl rfl dX10_tellsConvergent_7 (fun h2 eh2 => ?_)
  refine aw_lconst (pc := 10) (v := 0) C dX10_tellsConvergent_10 (by decide) ?_
  refine aw_lstore_n (pc := 11) (L' := [(2, .long 0), (0, rf E a0), (1, .int a1)]) C dX10_tellsConvergent_11 rfl (by decide) rfl ?_
  refine aw_lconst (pc := 12) (v := 1) C dX10_tellsConvergent_12 (by decide) ?_
  refine aw_lstore (pc := 13) (L' := [(4, .long 1), (2, .long 0), (0, rf E a0), (1, .int a1)]) C dX10_tellsConvergent_13 (by decide) rfl ?_
  refine aw_iconst (pc := 15) (v := 0) C dX10_tellsConvergent_15 (by decide) ?_
  refine aw_istore (pc := 16) (L' := [(6, .int 0), (4, .long 1), (2, .long 0), (0, rf E a0), (1, .int a1)]) C dX10_tellsConvergent_16 (by decide) rfl ?_
  refine aw_sub (L' := [(0, rf E a0), (1, .int a1), (2, .long 0), (4, .long 1), (6, .int 0)]) [3, 4, 2, 1, 0] rfl ?_
  refine aw_loop (pc := 18) (σ := Int64 × Int64 × Int32 × Mem) (fun s => [(0, rf E a0), (1, .int a1), (2, .long s.1), (4, .long s.2.1), (6, .int s.2.2.1)]) (fun s => s.2.2.2) _ (fun k7 ih8 s => ?_) _ _
  obtain ⟨v3, v4, v5, h6⟩ := s
  show Aw K E _ _ _ _ _ 18 [(0, rf E a0), (1, .int a1), (2, .long v3), (4, .long v4), (6, .int v5)] [] h6 _
  refine aw_iload (pc := 18) C dX10_tellsConvergent_18 4 rfl ?_
  refine aw_iload_n (pc := 20) C dX10_tellsConvergent_20 rfl 1 rfl ?_
  refine aw_icmp_gt (pc := 21) C 88 dX10_tellsConvergent_21 (by decide) (fun c22 => ?_) (fun c22 => ?_)
  · exact aw_return (pc := 88) C hr hz0 rfl dX10_tellsConvergent_88
  refine aw_aload_n (pc := 24) C dX10_tellsConvergent_24 rfl 0 rfl ?_
  refine aw_getR (pc := 25) C fl_X10_69 dX10_tellsConvergent_25 (fun v9 ev9 => ?_)
  refine aw_iload (pc := 28) C dX10_tellsConvergent_28 4 rfl ?_
  refine aw_iaload (pc := 30) C dX10_tellsConvergent_30 (fun v10 ev10 => ?_)
  refine aw_i2l (pc := 31) C dX10_tellsConvergent_31 ?_
  refine aw_aload_n (pc := 32) C dX10_tellsConvergent_32 rfl 0 rfl ?_
  refine aw_getJ (pc := 33) C fl_X10_203 dX10_tellsConvergent_33 (fun v11 ev11 => ?_)
  refine aw_lmul (pc := 36) C dX10_tellsConvergent_36 ?_
  refine aw_lload_n (pc := 37) C dX10_tellsConvergent_37 rfl 2 rfl ?_
  refine aw_ladd (pc := 38) C dX10_tellsConvergent_38 ?_
  refine aw_nmJ (pc := 39) (fun v12 ev12 => ?_)
  refine aw_lstore (pc := 39) (L' := [(7, .long v12), (0, rf E a0), (1, .int a1), (2, .long v3), (4, .long v4), (6, .int v5)]) C dX10_tellsConvergent_39 (by decide) rfl ?_
  refine aw_aload_n (pc := 41) C dX10_tellsConvergent_41 rfl 1 rfl ?_
  refine aw_getR (pc := 42) C fl_X10_69 dX10_tellsConvergent_42 (fun v13 ev13 => ?_)
  refine aw_iload (pc := 45) C dX10_tellsConvergent_45 5 rfl ?_
  refine aw_iaload (pc := 47) C dX10_tellsConvergent_47 (fun v14 ev14 => ?_)
  refine aw_i2l (pc := 48) C dX10_tellsConvergent_48 ?_
  refine aw_aload_n (pc := 49) C dX10_tellsConvergent_49 rfl 1 rfl ?_
  refine aw_getJ (pc := 50) C fl_X10_207 dX10_tellsConvergent_50 (fun v15 ev15 => ?_)
  refine aw_lmul (pc := 53) C dX10_tellsConvergent_53 ?_
  refine aw_lload (pc := 54) C dX10_tellsConvergent_54 4 rfl ?_
  refine aw_ladd (pc := 56) C dX10_tellsConvergent_56 ?_
  refine aw_nmJ (pc := 57) (fun v16 ev16 => ?_)
  refine aw_lstore (pc := 57) (L' := [(9, .long v16), (7, .long v12), (0, rf E a0), (1, .int a1), (2, .long v3), (4, .long v4), (6, .int v5)]) C dX10_tellsConvergent_57 (by decide) rfl ?_
  refine aw_aload_n (pc := 59) C dX10_tellsConvergent_59 rfl 2 rfl ?_
  refine aw_getJ (pc := 60) C fl_X10_203 dX10_tellsConvergent_60 (fun v17 ev17 => ?_)
  refine aw_lstore_n (pc := 63) (L' := [(2, .long v17), (9, .long v16), (7, .long v12), (0, rf E a0), (1, .int a1), (4, .long v4), (6, .int v5)]) C dX10_tellsConvergent_63 rfl (by decide) rfl ?_
  refine aw_aload_n (pc := 64) C dX10_tellsConvergent_64 rfl 3 rfl ?_
  refine aw_getJ (pc := 65) C fl_X10_207 dX10_tellsConvergent_65 (fun v18 ev18 => ?_)
  refine aw_lstore (pc := 68) (L' := [(4, .long v18), (2, .long v17), (9, .long v16), (7, .long v12), (0, rf E a0), (1, .int a1), (6, .int v5)]) C dX10_tellsConvergent_68 (by decide) rfl ?_
  refine aw_aload_n (pc := 70) C dX10_tellsConvergent_70 rfl 4 rfl ?_
  refine aw_lload (pc := 71) C dX10_tellsConvergent_71 3 rfl ?_
  refine aw_putJ (pc := 73) C fw_X10_203 rfl rfl dX10_tellsConvergent_73 (fun h19 eh19 => ?_)
  refine aw_aload_n (pc := 76) C dX10_tellsConvergent_76 rfl 4 rfl ?_
  refine aw_lload (pc := 77) C dX10_tellsConvergent_77 2 rfl ?_
  refine aw_putJ (pc := 79) C fw_X10_207 rfl rfl dX10_tellsConvergent_79 (fun h20 eh20 => ?_)
  refine aw_iincN (pc := 82) (L1 := [(4, .long v18), (2, .long v17), (9, .long v16), (7, .long v12), (0, rf E a0), (1, .int a1)]) (k := 1) C dX10_tellsConvergent_82 6 rfl (by decide) (by decide) rfl (fun v21 ev21 => ?_)
  refine aw_goto (pc := 85) C 18 dX10_tellsConvergent_85 (by decide) ?_
  exact aw_sub (L' := [(0, rf E a0), (1, .int a1), (2, .long v17), (4, .long v18), (6, .int v21)]) [5, 6, 2, 1, 0] rfl (ih8 (v17, v18, v21, h20))
def rmX10_answering : Room := { frames := 3, cells := 0, slots := 0, locals := 73 }
set_option maxHeartbeats 4000000 in
set_option maxRecDepth 100000 in
theorem okX10_answering (E : Ev) (l : Launch) (a0 : Nat) (h0 : Mem) : AMet E l yX10_answering cX10_answering 3 (some (.int)) rmX10_answering [rf E a0] h0 rvI (fX10_answering a0 h0) := by
  refine am_intro (plainFor_of_name (by decide +kernel)) (Nat.le_of_ble_eq_true rfl) (fun K hKl C hr hnm hz0 => ?_)
  replace C : CxOK K E RX10 cX10_answering 3 := C
  have hE : E.1 + 1 ≤ (kS K).heap.size := by omega
  unfold fX10_answering
  show Aw K E _ _ _ _ _ 0 [(0, rf E a0)] [] h0 _
  refine aw_aload_n (pc := 0) C dX10_answering_0 rfl 0 rfl ?_
  refine aw_callVV (pc := 1) (R := rmX10_answering) (c := 10) (As := []) (rest := []) (st := [rf E a0]) (c' := 0) (s' := 0) C hE rfl (by decide) cal_X10_tellsParts ml_X10_210 rfl ⟨(Nat.le_of_ble_eq_true rfl), (Nat.le_of_ble_eq_true rfl)⟩ ⟨(Nat.le_of_ble_eq_true rfl), (Nat.le_of_ble_eq_true rfl)⟩ dX10_answering_1 (okX10_tellsParts E (kL K) a0 h0) rfl (Nat.le_of_ble_eq_true rfl) rfl rfl (fun _u h1 eh1 => ?_)
  refine aw_iconst (pc := 4) (v := 0) C dX10_answering_4 (by decide) ?_
  refine aw_istore_n (pc := 5) (L' := [(1, .int 0), (0, rf E a0)]) C dX10_answering_5 rfl (by decide) rfl ?_
  refine aw_iconst (pc := 6) (v := 0) C dX10_answering_6 (by decide) ?_
  refine aw_istore_n (pc := 7) (L' := [(2, .int 0), (1, .int 0), (0, rf E a0)]) C dX10_answering_7 rfl (by decide) rfl ?_
  refine aw_sub (L' := [(0, rf E a0), (1, .int 0), (2, .int 0)]) [2, 1, 0] rfl ?_
  refine aw_loop (pc := 8) (σ := Int32 × Int32 × Mem) (fun s => [(0, rf E a0), (1, .int s.1), (2, .int s.2.1)]) (fun s => s.2.2) _ (fun k5 ih6 s => ?_) _ _
  obtain ⟨v2, v3, h4⟩ := s
  show Aw K E _ _ _ _ _ 8 [(0, rf E a0), (1, .int v2), (2, .int v3)] [] h4 _
  refine aw_iload_n (pc := 8) C dX10_answering_8 rfl 2 rfl ?_
  refine aw_aload_n (pc := 9) C dX10_answering_9 rfl 0 rfl ?_
  refine aw_getI (pc := 10) C fl_X10_194 dX10_answering_10 (fun v7 ev7 => ?_)
  refine aw_icmp_ge (pc := 13) C 98 dX10_answering_13 (by decide) (fun c35 => ?_) (fun c35 => ?_)
  · refine aw_iload_n (pc := 98) C dX10_answering_98 rfl 1 rfl ?_
    exact aw_ireturn (pc := 99) C hr rfl hz0 rfl dX10_answering_99
  refine aw_aload_n (pc := 16) C dX10_answering_16 rfl 0 rfl ?_
  refine aw_iload_n (pc := 17) C dX10_answering_17 rfl 2 rfl ?_
  refine aw_callVV (pc := 18) (R := rmX10_answering) (c := 10) (As := [.int v3]) (rest := []) (st := [.int v3, rf E a0]) (c' := 0) (s' := 0) C hE rfl (by decide) cal_X10_tellsConvergent ml_X10_215 rfl ⟨(Nat.le_of_ble_eq_true rfl), (Nat.le_of_ble_eq_true rfl)⟩ ⟨(Nat.le_of_ble_eq_true rfl), (Nat.le_of_ble_eq_true rfl)⟩ dX10_answering_18 (okX10_tellsConvergent E (kL K) a0 v3 h4) rfl (Nat.le_of_ble_eq_true rfl) rfl rfl (fun _u h8 eh8 => ?_)
  refine aw_iload_n (pc := 21) C dX10_answering_21 rfl 1 rfl ?_
  refine aw_aload_n (pc := 22) C dX10_answering_22 rfl 0 rfl ?_
  refine aw_getJ (pc := 23) C fl_X10_203 dX10_answering_23 (fun v9 ev9 => ?_)
  refine aw_aload_n (pc := 26) C dX10_answering_26 rfl 0 rfl ?_
  refine aw_getI (pc := 27) C fl_X10_22 dX10_answering_27 (fun v10 ev10 => ?_)
  refine aw_ineg (pc := 30) C dX10_answering_30 ?_
  refine aw_i2l (pc := 31) C dX10_answering_31 ?_
  refine aw_aload_n (pc := 32) C dX10_answering_32 rfl 0 rfl ?_
  refine aw_getI (pc := 33) C fl_X10_22 dX10_answering_33 (fun v11 ev11 => ?_)
  refine aw_i2l (pc := 36) C dX10_answering_36 ?_
  refine aw_callSI (pc := 37) (R := rmX10_answering) (As := [.long v9, .long ((-v10).toInt64), .long v11.toInt64]) (rest := [.int v2]) (st := [.long v11.toInt64, .long ((-v10).toInt64), .long v9, .int v2]) (c' := 0) (s' := 0) C hE cal_X10_in ml_X10_96 rfl ⟨(Nat.le_of_ble_eq_true rfl), (Nat.le_of_ble_eq_true rfl)⟩ ⟨(Nat.le_of_ble_eq_true rfl), (Nat.le_of_ble_eq_true rfl)⟩ dX10_answering_37 (okX10_in E (kL K) v9 ((-v10).toInt64) v11.toInt64 h8) rfl (Nat.le_of_ble_eq_true rfl) rfl rfl (fun v13 h12 eh12 => ?_)
  refine aw_if_eq (pc := 40) C 89 dX10_answering_40 (by decide) (fun c34 => ?_) (fun c34 => ?_)
  · refine aw_iconst (pc := 89) (v := 0) C dX10_answering_89 (by decide) ?_
    refine aw_iadd (pc := 90) C dX10_answering_90 ?_
    refine aw_nmI (pc := 91) (fun v32 ev32 => ?_)
    refine aw_istore_n (pc := 91) (L' := [(1, .int v32), (0, rf E a0), (2, .int v3)]) C dX10_answering_91 rfl (by decide) rfl ?_
    refine aw_iincN (pc := 92) (L1 := [(1, .int v32), (0, rf E a0)]) (k := 1) C dX10_answering_92 2 rfl (by decide) (by decide) rfl (fun v33 ev33 => ?_)
    refine aw_goto (pc := 95) C 8 dX10_answering_95 (by decide) ?_
    exact aw_sub (L' := [(0, rf E a0), (1, .int v32), (2, .int v33)]) [2, 1, 0] rfl (ih6 (v32, v33, h12))
  refine aw_aload_n (pc := 43) C dX10_answering_43 rfl 0 rfl ?_
  refine aw_getJ (pc := 44) C fl_X10_207 dX10_answering_44 (fun v14 ev14 => ?_)
  refine aw_aload_n (pc := 47) C dX10_answering_47 rfl 0 rfl ?_
  refine aw_getI (pc := 48) C fl_X10_22 dX10_answering_48 (fun v15 ev15 => ?_)
  refine aw_ineg (pc := 51) C dX10_answering_51 ?_
  refine aw_i2l (pc := 52) C dX10_answering_52 ?_
  refine aw_aload_n (pc := 53) C dX10_answering_53 rfl 0 rfl ?_
  refine aw_getI (pc := 54) C fl_X10_22 dX10_answering_54 (fun v16 ev16 => ?_)
  refine aw_i2l (pc := 57) C dX10_answering_57 ?_
  refine aw_callSI (pc := 58) (R := rmX10_answering) (As := [.long v14, .long ((-v15).toInt64), .long v16.toInt64]) (rest := [.int v2]) (st := [.long v16.toInt64, .long ((-v15).toInt64), .long v14, .int v2]) (c' := 0) (s' := 0) C hE cal_X10_in ml_X10_96 rfl ⟨(Nat.le_of_ble_eq_true rfl), (Nat.le_of_ble_eq_true rfl)⟩ ⟨(Nat.le_of_ble_eq_true rfl), (Nat.le_of_ble_eq_true rfl)⟩ dX10_answering_58 (okX10_in E (kL K) v14 ((-v15).toInt64) v16.toInt64 h12) rfl (Nat.le_of_ble_eq_true rfl) rfl rfl (fun v18 h17 eh17 => ?_)
  refine aw_if_eq (pc := 61) C 89 dX10_answering_61 (by decide) (fun c31 => ?_) (fun c31 => ?_)
  · refine aw_iconst (pc := 89) (v := 0) C dX10_answering_89 (by decide) ?_
    refine aw_iadd (pc := 90) C dX10_answering_90 ?_
    refine aw_nmI (pc := 91) (fun v29 ev29 => ?_)
    refine aw_istore_n (pc := 91) (L' := [(1, .int v29), (0, rf E a0), (2, .int v3)]) C dX10_answering_91 rfl (by decide) rfl ?_
    refine aw_iincN (pc := 92) (L1 := [(1, .int v29), (0, rf E a0)]) (k := 1) C dX10_answering_92 2 rfl (by decide) (by decide) rfl (fun v30 ev30 => ?_)
    refine aw_goto (pc := 95) C 8 dX10_answering_95 (by decide) ?_
    exact aw_sub (L' := [(0, rf E a0), (1, .int v29), (2, .int v30)]) [2, 1, 0] rfl (ih6 (v29, v30, h17))
  refine aw_aload_n (pc := 64) C dX10_answering_64 rfl 0 rfl ?_
  refine aw_aload_n (pc := 65) C dX10_answering_65 rfl 0 rfl ?_
  refine aw_getJ (pc := 66) C fl_X10_203 dX10_answering_66 (fun v19 ev19 => ?_)
  refine aw_aload_n (pc := 69) C dX10_answering_69 rfl 0 rfl ?_
  refine aw_getJ (pc := 70) C fl_X10_207 dX10_answering_70 (fun v20 ev20 => ?_)
  refine aw_callVJ (pc := 73) (R := rmX10_answering) (c := 10) (As := [.long v19, .long v20]) (rest := [.int v2]) (st := [.long v20, .long v19, rf E a0, .int v2]) (c' := 0) (s' := 0) C hE rfl (by decide) cal_X10_valueAt ml_X10_146 rfl ⟨(Nat.le_of_ble_eq_true rfl), (Nat.le_of_ble_eq_true rfl)⟩ ⟨(Nat.le_of_ble_eq_true rfl), (Nat.le_of_ble_eq_true rfl)⟩ dX10_answering_73 (okX10_valueAt E (kL K) a0 v19 v20 h17) rfl (Nat.le_of_ble_eq_true rfl) rfl rfl (fun v22 h21 eh21 => ?_)
  refine aw_aload_n (pc := 76) C dX10_answering_76 rfl 0 rfl ?_
  refine aw_getI (pc := 77) C fl_X10_19 dX10_answering_77 (fun v23 ev23 => ?_)
  refine aw_i2l (pc := 80) C dX10_answering_80 ?_
  refine aw_lcmp (pc := 81) C dX10_answering_81 ?_
  refine aw_if_ne (pc := 82) C 89 dX10_answering_82 (by decide) (fun c28 => ?_) (fun c28 => ?_)
  · refine aw_iconst (pc := 85) (v := 1) C dX10_answering_85 (by decide) ?_
    refine aw_goto (pc := 86) C 90 dX10_answering_86 (by decide) ?_
    refine aw_iadd (pc := 90) C dX10_answering_90 ?_
    refine aw_nmI (pc := 91) (fun v24 ev24 => ?_)
    refine aw_istore_n (pc := 91) (L' := [(1, .int v24), (0, rf E a0), (2, .int v3)]) C dX10_answering_91 rfl (by decide) rfl ?_
    refine aw_iincN (pc := 92) (L1 := [(1, .int v24), (0, rf E a0)]) (k := 1) C dX10_answering_92 2 rfl (by decide) (by decide) rfl (fun v25 ev25 => ?_)
    refine aw_goto (pc := 95) C 8 dX10_answering_95 (by decide) ?_
    exact aw_sub (L' := [(0, rf E a0), (1, .int v24), (2, .int v25)]) [2, 1, 0] rfl (ih6 (v24, v25, h21))
  refine aw_iconst (pc := 89) (v := 0) C dX10_answering_89 (by decide) ?_
  refine aw_iadd (pc := 90) C dX10_answering_90 ?_
  refine aw_nmI (pc := 91) (fun v26 ev26 => ?_)
  refine aw_istore_n (pc := 91) (L' := [(1, .int v26), (0, rf E a0), (2, .int v3)]) C dX10_answering_91 rfl (by decide) rfl ?_
  refine aw_iincN (pc := 92) (L1 := [(1, .int v26), (0, rf E a0)]) (k := 1) C dX10_answering_92 2 rfl (by decide) (by decide) rfl (fun v27 ev27 => ?_)
  refine aw_goto (pc := 95) C 8 dX10_answering_95 (by decide) ?_
  exact aw_sub (L' := [(0, rf E a0), (1, .int v26), (2, .int v27)]) [2, 1, 0] rfl (ih6 (v26, v27, h21))
def rmX10_told : Room := { frames := 4, cells := 0, slots := 0, locals := 106 }
set_option maxHeartbeats 4000000 in
set_option maxRecDepth 100000 in
theorem okX10_told (E : Ev) (l : Launch) (a0 : Nat) (a1 : Int32) (h0 : Mem) : AMet E l yX10_told cX10_told 2 (some (.int)) rmX10_told [rf E a0, .int a1] h0 rvI (fX10_told a0 a1 h0) := by
  refine am_intro (plainFor_of_name (by decide +kernel)) (Nat.le_of_ble_eq_true rfl) (fun K hKl C hr hnm hz0 => ?_)
  replace C : CxOK K E RX10 cX10_told 2 := C
  have hE : E.1 + 1 ≤ (kS K).heap.size := by omega
  unfold fX10_told
  show Aw K E _ _ _ _ _ 0 [(0, rf E a0), (1, .int a1)] [] h0 _
  refine aw_iload_n (pc := 0) C dX10_told_0 rfl 1 rfl ?_
  refine aw_case 0 (fun c1 => ?_) (fun c1 => ?_)
  · refine aw_tableIn (pc := 1) C 0 48 c1 dX10_told_1 (by decide) (by decide) rfl (by decide) ?_
    refine aw_aload_n (pc := 48) C dX10_told_48 rfl 0 rfl ?_
    refine aw_getI (pc := 49) C fl_X10_9 dX10_told_49 (fun v2 ev2 => ?_)
    exact aw_ireturn (pc := 52) C hr rfl hz0 rfl dX10_told_52
  refine aw_case 1 (fun c3 => ?_) (fun c3 => ?_)
  · refine aw_tableIn (pc := 1) C 1 53 c3 dX10_told_1 (by decide) (by decide) rfl (by decide) ?_
    refine aw_aload_n (pc := 53) C dX10_told_53 rfl 0 rfl ?_
    refine aw_getI (pc := 54) C fl_X10_19 dX10_told_54 (fun v4 ev4 => ?_)
    refine aw_sipush (pc := 57) (v := 10000) C dX10_told_57 (by decide) ?_
    refine aw_iadd (pc := 60) C dX10_told_60 ?_
    exact aw_ireturn (pc := 61) C hr rfl hz0 rfl dX10_told_61
  refine aw_case 2 (fun c5 => ?_) (fun c5 => ?_)
  · refine aw_tableIn (pc := 1) C 2 62 c5 dX10_told_1 (by decide) (by decide) rfl (by decide) ?_
    refine aw_aload_n (pc := 62) C dX10_told_62 rfl 0 rfl ?_
    refine aw_getI (pc := 63) C fl_X10_22 dX10_told_63 (fun v6 ev6 => ?_)
    exact aw_ireturn (pc := 66) C hr rfl hz0 rfl dX10_told_66
  refine aw_case 3 (fun c7 => ?_) (fun c7 => ?_)
  · refine aw_tableIn (pc := 1) C 3 67 c7 dX10_told_1 (by decide) (by decide) rfl (by decide) ?_
    refine aw_aload_n (pc := 67) C dX10_told_67 rfl 0 rfl ?_
    refine aw_callVV (pc := 68) (R := rmX10_told) (c := 10) (As := []) (rest := []) (st := [rf E a0]) (c' := 0) (s' := 0) C hE rfl (by decide) cal_X10_tellsAnswers ml_X10_157 rfl ⟨(Nat.le_of_ble_eq_true rfl), (Nat.le_of_ble_eq_true rfl)⟩ ⟨(Nat.le_of_ble_eq_true rfl), (Nat.le_of_ble_eq_true rfl)⟩ dX10_told_68 (okX10_tellsAnswers E (kL K) a0 h0) rfl (Nat.le_of_ble_eq_true rfl) rfl rfl (fun _u h8 eh8 => ?_)
    refine aw_aload_n (pc := 71) C dX10_told_71 rfl 0 rfl ?_
    refine aw_getI (pc := 72) C fl_X10_143 dX10_told_72 (fun v9 ev9 => ?_)
    exact aw_ireturn (pc := 75) C hr rfl hz0 rfl dX10_told_75
  refine aw_case 4 (fun c10 => ?_) (fun c10 => ?_)
  · refine aw_tableIn (pc := 1) C 4 76 c10 dX10_told_1 (by decide) (by decide) rfl (by decide) ?_
    refine aw_aload_n (pc := 76) C dX10_told_76 rfl 0 rfl ?_
    refine aw_callVV (pc := 77) (R := rmX10_told) (c := 10) (As := []) (rest := []) (st := [rf E a0]) (c' := 0) (s' := 0) C hE rfl (by decide) cal_X10_tellsUnits ml_X10_160 rfl ⟨(Nat.le_of_ble_eq_true rfl), (Nat.le_of_ble_eq_true rfl)⟩ ⟨(Nat.le_of_ble_eq_true rfl), (Nat.le_of_ble_eq_true rfl)⟩ dX10_told_77 (okX10_tellsUnits E (kL K) a0 h0) rfl (Nat.le_of_ble_eq_true rfl) rfl rfl (fun _u h11 eh11 => ?_)
    refine aw_aload_n (pc := 80) C dX10_told_80 rfl 0 rfl ?_
    refine aw_getI (pc := 81) C fl_X10_150 dX10_told_81 (fun v12 ev12 => ?_)
    exact aw_ireturn (pc := 84) C hr rfl hz0 rfl dX10_told_84
  refine aw_case 5 (fun c13 => ?_) (fun c13 => ?_)
  · refine aw_tableIn (pc := 1) C 5 85 c13 dX10_told_1 (by decide) (by decide) rfl (by decide) ?_
    refine aw_aload_n (pc := 85) C dX10_told_85 rfl 0 rfl ?_
    refine aw_callVV (pc := 86) (R := rmX10_told) (c := 10) (As := []) (rest := []) (st := [rf E a0]) (c' := 0) (s' := 0) C hE rfl (by decide) cal_X10_tellsFamilies ml_X10_219 rfl ⟨(Nat.le_of_ble_eq_true rfl), (Nat.le_of_ble_eq_true rfl)⟩ ⟨(Nat.le_of_ble_eq_true rfl), (Nat.le_of_ble_eq_true rfl)⟩ dX10_told_86 (okX10_tellsFamilies E (kL K) a0 h0) rfl (Nat.le_of_ble_eq_true rfl) rfl rfl (fun _u h14 eh14 => ?_)
    refine aw_aload_n (pc := 89) C dX10_told_89 rfl 0 rfl ?_
    refine aw_getI (pc := 90) C fl_X10_171 dX10_told_90 (fun v15 ev15 => ?_)
    exact aw_ireturn (pc := 93) C hr rfl hz0 rfl dX10_told_93
  refine aw_case 6 (fun c16 => ?_) (fun c16 => ?_)
  · refine aw_tableIn (pc := 1) C 6 94 c16 dX10_told_1 (by decide) (by decide) rfl (by decide) ?_
    refine aw_aload_n (pc := 94) C dX10_told_94 rfl 0 rfl ?_
    refine aw_callVV (pc := 95) (R := rmX10_told) (c := 10) (As := []) (rest := []) (st := [rf E a0]) (c' := 0) (s' := 0) C hE rfl (by decide) cal_X10_tellsParts ml_X10_210 rfl ⟨(Nat.le_of_ble_eq_true rfl), (Nat.le_of_ble_eq_true rfl)⟩ ⟨(Nat.le_of_ble_eq_true rfl), (Nat.le_of_ble_eq_true rfl)⟩ dX10_told_95 (okX10_tellsParts E (kL K) a0 h0) rfl (Nat.le_of_ble_eq_true rfl) rfl rfl (fun _u h17 eh17 => ?_)
    refine aw_aload_n (pc := 98) C dX10_told_98 rfl 0 rfl ?_
    refine aw_getI (pc := 99) C fl_X10_194 dX10_told_99 (fun v18 ev18 => ?_)
    exact aw_ireturn (pc := 102) C hr rfl hz0 rfl dX10_told_102
  refine aw_case 7 (fun c19 => ?_) (fun c19 => ?_)
  · refine aw_tableIn (pc := 1) C 7 103 c19 dX10_told_1 (by decide) (by decide) rfl (by decide) ?_
    refine aw_aload_n (pc := 103) C dX10_told_103 rfl 0 rfl ?_
    refine aw_callVI (pc := 104) (R := rmX10_told) (c := 10) (As := []) (rest := []) (st := [rf E a0]) (c' := 0) (s' := 0) C hE rfl (by decide) cal_X10_answering ml_X10_222 rfl ⟨(Nat.le_of_ble_eq_true rfl), (Nat.le_of_ble_eq_true rfl)⟩ ⟨(Nat.le_of_ble_eq_true rfl), (Nat.le_of_ble_eq_true rfl)⟩ dX10_told_104 (okX10_answering E (kL K) a0 h0) rfl (Nat.le_of_ble_eq_true rfl) rfl rfl (fun v21 h20 eh20 => ?_)
    exact aw_ireturn (pc := 107) C hr rfl hz0 rfl dX10_told_107
  refine aw_tableOut (pc := 1) C 108 dX10_told_1 (by have qc1 := lv_neT c1 (show (0 : Int32).toInt = 0 by decide); have qc3 := lv_neT c3 (show (1 : Int32).toInt = 1 by decide); have qc5 := lv_neT c5 (show (2 : Int32).toInt = 2 by decide); have qc7 := lv_neT c7 (show (3 : Int32).toInt = 3 by decide); have qc10 := lv_neT c10 (show (4 : Int32).toInt = 4 by decide); have qc13 := lv_neT c13 (show (5 : Int32).toInt = 5 by decide); have qc16 := lv_neT c16 (show (6 : Int32).toInt = 6 by decide); have qc19 := lv_neT c19 (show (7 : Int32).toInt = 7 by decide); omega) (by decide) ?_
  refine aw_iconst (pc := 108) (v := (-1)) C dX10_told_108 (by decide) ?_
  exact aw_ireturn (pc := 109) C hr rfl hz0 rfl dX10_told_109
def rmX10_value : Room := { frames := 2, cells := 0, slots := 0, locals := 52 }
set_option maxHeartbeats 4000000 in
set_option maxRecDepth 100000 in
theorem okX10_value (E : Ev) (l : Launch) (a0 : Nat) (a1 : Int32) (a2 : Int32) (h0 : Mem) : AMet E l yX10_value cX10_value 3 (some (.long)) rmX10_value [rf E a0, .int a1, .int a2] h0 rvJ (fX10_value a0 a1 a2 h0) := by
  refine am_intro (plainFor_of_name (by decide +kernel)) (Nat.le_of_ble_eq_true rfl) (fun K hKl C hr hnm hz0 => ?_)
  replace C : CxOK K E RX10 cX10_value 3 := C
  have hE : E.1 + 1 ≤ (kS K).heap.size := by omega
  unfold fX10_value
  show Aw K E _ _ _ _ _ 0 [(0, rf E a0), (1, .int a1), (2, .int a2)] [] h0 _
  refine aw_iload_n (pc := 0) C dX10_value_0 rfl 1 rfl ?_
  refine aw_i2l (pc := 1) C dX10_value_1 ?_
  refine aw_ldc2 (pc := 2) (v := (-999)) C kc_X10_225 dX10_value_2 ?_
  refine aw_ldc2 (pc := 5) (v := 999) C kc_X10_227 dX10_value_5 ?_
  refine aw_callSI (pc := 8) (R := rmX10_value) (As := [.long a1.toInt64, .long (-999), .long 999]) (rest := []) (st := [.long 999, .long (-999), .long a1.toInt64]) (c' := 0) (s' := 0) C hE cal_X10_in ml_X10_96 rfl ⟨(Nat.le_of_ble_eq_true rfl), (Nat.le_of_ble_eq_true rfl)⟩ ⟨(Nat.le_of_ble_eq_true rfl), (Nat.le_of_ble_eq_true rfl)⟩ dX10_value_8 (okX10_in E (kL K) a1.toInt64 (-999) 999 h0) rfl (Nat.le_of_ble_eq_true rfl) rfl rfl (fun v2 h1 eh1 => ?_)
  refine aw_if_eq (pc := 11) C 39 dX10_value_11 (by decide) (fun c8 => ?_) (fun c8 => ?_)
  · refine aw_ldc2 (pc := 39) (v := (-9223372036854775808)) C kc_X10_213 dX10_value_39 ?_
    exact aw_lreturn (pc := 42) C hr hz0 rfl dX10_value_42
  refine aw_iload_n (pc := 14) C dX10_value_14 rfl 2 rfl ?_
  refine aw_i2l (pc := 15) C dX10_value_15 ?_
  refine aw_ldc2 (pc := 16) (v := (-999)) C kc_X10_225 dX10_value_16 ?_
  refine aw_ldc2 (pc := 19) (v := 999) C kc_X10_227 dX10_value_19 ?_
  refine aw_callSI (pc := 22) (R := rmX10_value) (As := [.long a2.toInt64, .long (-999), .long 999]) (rest := []) (st := [.long 999, .long (-999), .long a2.toInt64]) (c' := 0) (s' := 0) C hE cal_X10_in ml_X10_96 rfl ⟨(Nat.le_of_ble_eq_true rfl), (Nat.le_of_ble_eq_true rfl)⟩ ⟨(Nat.le_of_ble_eq_true rfl), (Nat.le_of_ble_eq_true rfl)⟩ dX10_value_22 (okX10_in E (kL K) a2.toInt64 (-999) 999 h1) rfl (Nat.le_of_ble_eq_true rfl) rfl rfl (fun v4 h3 eh3 => ?_)
  refine aw_if_eq (pc := 25) C 39 dX10_value_25 (by decide) (fun c7 => ?_) (fun c7 => ?_)
  · refine aw_ldc2 (pc := 39) (v := (-9223372036854775808)) C kc_X10_213 dX10_value_39 ?_
    exact aw_lreturn (pc := 42) C hr hz0 rfl dX10_value_42
  refine aw_aload_n (pc := 28) C dX10_value_28 rfl 0 rfl ?_
  refine aw_iload_n (pc := 29) C dX10_value_29 rfl 1 rfl ?_
  refine aw_i2l (pc := 30) C dX10_value_30 ?_
  refine aw_iload_n (pc := 31) C dX10_value_31 rfl 2 rfl ?_
  refine aw_i2l (pc := 32) C dX10_value_32 ?_
  refine aw_callVJ (pc := 33) (R := rmX10_value) (c := 10) (As := [.long a1.toInt64, .long a2.toInt64]) (rest := []) (st := [.long a2.toInt64, .long a1.toInt64, rf E a0]) (c' := 0) (s' := 0) C hE rfl (by decide) cal_X10_valueAt ml_X10_146 rfl ⟨(Nat.le_of_ble_eq_true rfl), (Nat.le_of_ble_eq_true rfl)⟩ ⟨(Nat.le_of_ble_eq_true rfl), (Nat.le_of_ble_eq_true rfl)⟩ dX10_value_33 (okX10_valueAt E (kL K) a0 a1.toInt64 a2.toInt64 h3) rfl (Nat.le_of_ble_eq_true rfl) rfl rfl (fun v6 h5 eh5 => ?_)
  refine aw_goto (pc := 36) C 42 dX10_value_36 (by decide) ?_
  exact aw_lreturn (pc := 42) C hr hz0 rfl dX10_value_42
def rmX10_answer : Room := { frames := 4, cells := 0, slots := 0, locals := 106 }
set_option maxHeartbeats 4000000 in
set_option maxRecDepth 100000 in
theorem okX10_answer (E : Ev) (l : Launch) (a0 : Nat) (a1 : Int32) (a2 : Int32) (h0 : Mem) : AMet E l yX10_answer cX10_answer 3 (some (.int)) rmX10_answer [rf E a0, .int a1, .int a2] h0 rvI (fX10_answer a0 a1 a2 h0) := by
  refine am_intro (plainFor_of_name (by decide +kernel)) (Nat.le_of_ble_eq_true rfl) (fun K hKl C hr hnm hz0 => ?_)
  replace C : CxOK K E RX10 cX10_answer 3 := C
  have hE : E.1 + 1 ≤ (kS K).heap.size := by omega
  unfold fX10_answer
  show Aw K E _ _ _ _ _ 0 [(0, rf E a0), (1, .int a1), (2, .int a2)] [] h0 _
  refine aw_iload_n (pc := 0) C dX10_answer_0 rfl 1 rfl ?_
  refine aw_if_lt (pc := 1) C 16 dX10_answer_1 (by decide) (fun c12 => ?_) (fun c12 => ?_)
  · refine aw_iconst (pc := 16) (v := (-1)) C dX10_answer_16 (by decide) ?_
    exact aw_ireturn (pc := 17) C hr rfl hz0 rfl dX10_answer_17
  refine aw_iload_n (pc := 4) C dX10_answer_4 rfl 2 rfl ?_
  refine aw_i2l (pc := 5) C dX10_answer_5 ?_
  refine aw_lconst (pc := 6) (v := 0) C dX10_answer_6 (by decide) ?_
  refine aw_ldc2 (pc := 7) (v := 2) C kc_X10_100 dX10_answer_7 ?_
  refine aw_callSI (pc := 10) (R := rmX10_answer) (As := [.long a2.toInt64, .long 0, .long 2]) (rest := []) (st := [.long 2, .long 0, .long a2.toInt64]) (c' := 0) (s' := 0) C hE cal_X10_in ml_X10_96 rfl ⟨(Nat.le_of_ble_eq_true rfl), (Nat.le_of_ble_eq_true rfl)⟩ ⟨(Nat.le_of_ble_eq_true rfl), (Nat.le_of_ble_eq_true rfl)⟩ dX10_answer_10 (okX10_in E (kL K) a2.toInt64 0 2 h0) rfl (Nat.le_of_ble_eq_true rfl) rfl rfl (fun v2 h1 eh1 => ?_)
  refine aw_if_ne (pc := 13) C 18 dX10_answer_13 (by decide) (fun c11 => ?_) (fun c11 => ?_)
  · refine aw_iconst (pc := 16) (v := (-1)) C dX10_answer_16 (by decide) ?_
    exact aw_ireturn (pc := 17) C hr rfl hz0 rfl dX10_answer_17
  refine aw_aload_n (pc := 18) C dX10_answer_18 rfl 0 rfl ?_
  refine aw_callVV (pc := 19) (R := rmX10_answer) (c := 10) (As := []) (rest := []) (st := [rf E a0]) (c' := 0) (s' := 0) C hE rfl (by decide) cal_X10_tellsFamilies ml_X10_219 rfl ⟨(Nat.le_of_ble_eq_true rfl), (Nat.le_of_ble_eq_true rfl)⟩ ⟨(Nat.le_of_ble_eq_true rfl), (Nat.le_of_ble_eq_true rfl)⟩ dX10_answer_19 (okX10_tellsFamilies E (kL K) a0 h1) rfl (Nat.le_of_ble_eq_true rfl) rfl rfl (fun _u h3 eh3 => ?_)
  refine aw_iload_n (pc := 22) C dX10_answer_22 rfl 1 rfl ?_
  refine aw_aload_n (pc := 23) C dX10_answer_23 rfl 0 rfl ?_
  refine aw_getI (pc := 24) C fl_X10_143 dX10_answer_24 (fun v4 ev4 => ?_)
  refine aw_icmp_lt (pc := 27) C 35 dX10_answer_27 (by decide) (fun c10 => ?_) (fun c10 => ?_)
  · refine aw_iload_n (pc := 35) C dX10_answer_35 rfl 2 rfl ?_
    refine aw_iconst (pc := 36) (v := 2) C dX10_answer_36 (by decide) ?_
    refine aw_icmp_ne (pc := 37) C 49 dX10_answer_37 (by decide) (fun c9 => ?_) (fun c9 => ?_)
    · refine aw_aload_n (pc := 40) C dX10_answer_40 rfl 0 rfl ?_
      refine aw_getR (pc := 41) C fl_X10_53 dX10_answer_41 (fun v5 ev5 => ?_)
      refine aw_iload_n (pc := 44) C dX10_answer_44 rfl 1 rfl ?_
      refine aw_iaload (pc := 45) C dX10_answer_45 (fun v6 ev6 => ?_)
      refine aw_goto (pc := 46) C 62 dX10_answer_46 (by decide) ?_
      exact aw_ireturn (pc := 62) C hr rfl hz0 rfl dX10_answer_62
    refine aw_aload_n (pc := 49) C dX10_answer_49 rfl 0 rfl ?_
    refine aw_getR (pc := 50) C fl_X10_41 dX10_answer_50 (fun v7 ev7 => ?_)
    refine aw_iconst (pc := 53) (v := 2) C dX10_answer_53 (by decide) ?_
    refine aw_iload_n (pc := 54) C dX10_answer_54 rfl 1 rfl ?_
    refine aw_imul (pc := 55) C dX10_answer_55 ?_
    refine aw_iload_n (pc := 56) C dX10_answer_56 rfl 2 rfl ?_
    refine aw_iadd (pc := 57) C dX10_answer_57 ?_
    refine aw_iaload (pc := 58) C dX10_answer_58 (fun v8 ev8 => ?_)
    refine aw_bipush (pc := 59) (v := 100) C dX10_answer_59 (by decide) ?_
    refine aw_iadd (pc := 61) C dX10_answer_61 ?_
    exact aw_ireturn (pc := 62) C hr rfl hz0 rfl dX10_answer_62
  refine aw_bipush (pc := 30) (v := (-5)) C dX10_answer_30 (by decide) ?_
  refine aw_goto (pc := 32) C 62 dX10_answer_32 (by decide) ?_
  exact aw_ireturn (pc := 62) C hr rfl hz0 rfl dX10_answer_62
def rmX10_remainders : Room := { frames := 2, cells := 0, slots := 0, locals := 52 }
set_option maxHeartbeats 4000000 in
set_option maxRecDepth 100000 in
theorem okX10_remainders (E : Ev) (l : Launch) (a0 : Nat) (a1 : Int32) (h0 : Mem) : AMet E l yX10_remainders cX10_remainders 4 (some (.int)) rmX10_remainders [rf E a0, .int a1] h0 rvI (fX10_remainders a0 a1 h0) := by
  refine am_intro (plainFor_of_name (by decide +kernel)) (Nat.le_of_ble_eq_true rfl) (fun K hKl C hr hnm hz0 => ?_)
  replace C : CxOK K E RX10 cX10_remainders 4 := C
  have hE : E.1 + 1 ≤ (kS K).heap.size := by omega
  unfold fX10_remainders
  show Aw K E _ _ _ _ _ 0 [(0, rf E a0), (1, .int a1)] [] h0 _
  refine aw_iconst (pc := 0) (v := 0) C dX10_remainders_0 (by decide) ?_
  refine aw_istore_n (pc := 1) (L' := [(2, .int 0), (0, rf E a0), (1, .int a1)]) C dX10_remainders_1 rfl (by decide) rfl ?_
  refine aw_sub (L' := [(0, rf E a0), (1, .int a1), (2, .int 0)]) [1, 2, 0] rfl ?_
  refine aw_loop (pc := 2) (σ := Int32 × Mem) (fun s => [(0, rf E a0), (1, .int a1), (2, .int s.1)]) (fun s => s.2) _ (fun k3 ih4 s => ?_) _ _
  obtain ⟨v1, h2⟩ := s
  show Aw K E _ _ _ _ _ 2 [(0, rf E a0), (1, .int a1), (2, .int v1)] [] h2 _
  refine aw_iload_n (pc := 2) C dX10_remainders_2 rfl 2 rfl ?_
  refine aw_bipush (pc := 3) (v := 13) C dX10_remainders_3 (by decide) ?_
  refine aw_icmp_ge (pc := 5) C 21 dX10_remainders_5 (by decide) (fun c36 => ?_) (fun c36 => ?_)
  · refine aw_iconst (pc := 21) (v := 0) C dX10_remainders_21 (by decide) ?_
    refine aw_istore_n (pc := 22) (L' := [(2, .int 0), (0, rf E a0), (1, .int a1)]) C dX10_remainders_22 rfl (by decide) rfl ?_
    refine aw_sub (L' := [(0, rf E a0), (1, .int a1), (2, .int 0)]) [1, 2, 0] rfl ?_
    refine aw_loop (pc := 23) (σ := Int32 × Mem) (fun s => [(0, rf E a0), (1, .int a1), (2, .int s.1)]) (fun s => s.2) _ (fun k10 ih11 s => ?_) _ _
    obtain ⟨v8, h9⟩ := s
    show Aw K E _ _ _ _ _ 23 [(0, rf E a0), (1, .int a1), (2, .int v8)] [] h9 _
    refine aw_iload_n (pc := 23) C dX10_remainders_23 rfl 2 rfl ?_
    refine aw_iload_n (pc := 24) C dX10_remainders_24 rfl 1 rfl ?_
    refine aw_icmp_ge (pc := 25) C 71 dX10_remainders_25 (by decide) (fun c35 => ?_) (fun c35 => ?_)
    · refine aw_iconst (pc := 71) (v := 0) C dX10_remainders_71 (by decide) ?_
      refine aw_istore_n (pc := 72) (L' := [(2, .int 0), (0, rf E a0), (1, .int a1)]) C dX10_remainders_72 rfl (by decide) rfl ?_
      refine aw_iconst (pc := 73) (v := 0) C dX10_remainders_73 (by decide) ?_
      refine aw_istore_n (pc := 74) (L' := [(3, .int 0), (2, .int 0), (0, rf E a0), (1, .int a1)]) C dX10_remainders_74 rfl (by decide) rfl ?_
      refine aw_sub (L' := [(0, rf E a0), (2, .int 0), (3, .int 0)]) [2, 1, 0] rfl ?_
      refine aw_loop (pc := 75) (σ := Int32 × Int32) (fun s => [(0, rf E a0), (2, .int s.1), (3, .int s.2)]) (fun s => h9) _ (fun k25 ih26 s => ?_) _ _
      obtain ⟨v23, v24⟩ := s
      show Aw K E _ _ _ _ _ 75 [(0, rf E a0), (2, .int v23), (3, .int v24)] [] h9 _
      refine aw_iload_n (pc := 75) C dX10_remainders_75 rfl 2 rfl ?_
      refine aw_bipush (pc := 76) (v := 13) C dX10_remainders_76 (by decide) ?_
      refine aw_icmp_ge (pc := 78) C 104 dX10_remainders_78 (by decide) (fun c34 => ?_) (fun c34 => ?_)
      · refine aw_iload_n (pc := 104) C dX10_remainders_104 rfl 1 rfl ?_
        exact aw_ireturn (pc := 105) C hr rfl hz0 rfl dX10_remainders_105
      refine aw_iload_n (pc := 81) C dX10_remainders_81 rfl 1 rfl ?_
      refine aw_aload_n (pc := 82) C dX10_remainders_82 rfl 0 rfl ?_
      refine aw_getR (pc := 83) C fl_X10_59 dX10_remainders_83 (fun v27 ev27 => ?_)
      refine aw_iload_n (pc := 86) C dX10_remainders_86 rfl 2 rfl ?_
      refine aw_baload (pc := 87) C dX10_remainders_87 (fun v28 ev28 => ?_)
      refine aw_if_eq (pc := 88) C 95 dX10_remainders_88 (by decide) (fun c33 => ?_) (fun c33 => ?_)
      · refine aw_iconst (pc := 95) (v := 0) C dX10_remainders_95 (by decide) ?_
        refine aw_iadd (pc := 96) C dX10_remainders_96 ?_
        refine aw_nmI (pc := 97) (fun v31 ev31 => ?_)
        refine aw_istore_n (pc := 97) (L' := [(2, .int v31), (0, rf E a0), (3, .int v24)]) C dX10_remainders_97 rfl (by decide) rfl ?_
        refine aw_iincN (pc := 98) (L1 := [(2, .int v31), (0, rf E a0)]) (k := 1) C dX10_remainders_98 2 rfl (by decide) (by decide) rfl (fun v32 ev32 => ?_)
        refine aw_goto (pc := 101) C 75 dX10_remainders_101 (by decide) ?_
        exact aw_sub (L' := [(0, rf E a0), (2, .int v31), (3, .int v32)]) [2, 1, 0] rfl (ih26 (v31, v32))
      refine aw_iconst (pc := 91) (v := 1) C dX10_remainders_91 (by decide) ?_
      refine aw_goto (pc := 92) C 96 dX10_remainders_92 (by decide) ?_
      refine aw_iadd (pc := 96) C dX10_remainders_96 ?_
      refine aw_nmI (pc := 97) (fun v29 ev29 => ?_)
      refine aw_istore_n (pc := 97) (L' := [(2, .int v29), (0, rf E a0), (3, .int v24)]) C dX10_remainders_97 rfl (by decide) rfl ?_
      refine aw_iincN (pc := 98) (L1 := [(2, .int v29), (0, rf E a0)]) (k := 1) C dX10_remainders_98 2 rfl (by decide) (by decide) rfl (fun v30 ev30 => ?_)
      refine aw_goto (pc := 101) C 75 dX10_remainders_101 (by decide) ?_
      exact aw_sub (L' := [(0, rf E a0), (2, .int v29), (3, .int v30)]) [2, 1, 0] rfl (ih26 (v29, v30))
    refine aw_iconst (pc := 28) (v := 0) C dX10_remainders_28 (by decide) ?_
    refine aw_istore_n (pc := 29) (L' := [(3, .int 0), (0, rf E a0), (1, .int a1), (2, .int v8)]) C dX10_remainders_29 rfl (by decide) rfl ?_
    refine aw_sub (L' := [(0, rf E a0), (1, .int a1), (2, .int v8), (3, .int 0)]) [1, 2, 3, 0] rfl ?_
    refine aw_loop (pc := 30) (σ := Int32 × Mem) (fun s => [(0, rf E a0), (1, .int a1), (2, .int v8), (3, .int s.1)]) (fun s => s.2) _ (fun k14 ih15 s => ?_) _ _
    obtain ⟨v12, h13⟩ := s
    show Aw K E _ _ _ _ _ 30 [(0, rf E a0), (1, .int a1), (2, .int v8), (3, .int v12)] [] h13 _
    refine aw_iload_n (pc := 30) C dX10_remainders_30 rfl 3 rfl ?_
    refine aw_iload_n (pc := 31) C dX10_remainders_31 rfl 1 rfl ?_
    refine aw_icmp_ge (pc := 32) C 65 dX10_remainders_32 (by decide) (fun c22 => ?_) (fun c22 => ?_)
    · refine aw_iincN (pc := 65) (L1 := [(0, rf E a0), (1, .int a1), (3, .int v12)]) (k := 1) C dX10_remainders_65 2 rfl (by decide) (by decide) rfl (fun v21 ev21 => ?_)
      refine aw_goto (pc := 68) C 23 dX10_remainders_68 (by decide) ?_
      exact aw_sub (L' := [(0, rf E a0), (1, .int a1), (2, .int v21)]) [1, 2, 0] rfl (ih11 (v21, h13))
    refine aw_aload_n (pc := 35) C dX10_remainders_35 rfl 0 rfl ?_
    refine aw_getR (pc := 36) C fl_X10_59 dX10_remainders_36 (fun v16 ev16 => ?_)
    refine aw_aload_n (pc := 39) C dX10_remainders_39 rfl 0 rfl ?_
    refine aw_iload_n (pc := 40) C dX10_remainders_40 rfl 2 rfl ?_
    refine aw_i2l (pc := 41) C dX10_remainders_41 ?_
    refine aw_iload_n (pc := 42) C dX10_remainders_42 rfl 3 rfl ?_
    refine aw_i2l (pc := 43) C dX10_remainders_43 ?_
    refine aw_callVJ (pc := 44) (R := rmX10_remainders) (c := 10) (As := [.long v8.toInt64, .long v12.toInt64]) (rest := [rf E v16]) (st := [.long v12.toInt64, .long v8.toInt64, rf E a0, rf E v16]) (c' := 0) (s' := 0) C hE rfl (by decide) cal_X10_valueAt ml_X10_146 rfl ⟨(Nat.le_of_ble_eq_true rfl), (Nat.le_of_ble_eq_true rfl)⟩ ⟨(Nat.le_of_ble_eq_true rfl), (Nat.le_of_ble_eq_true rfl)⟩ dX10_remainders_44 (okX10_valueAt E (kL K) a0 v8.toInt64 v12.toInt64 h13) rfl (Nat.le_of_ble_eq_true rfl) rfl rfl (fun v18 h17 eh17 => ?_)
    refine aw_iload_n (pc := 47) C dX10_remainders_47 rfl 1 rfl ?_
    refine aw_i2l (pc := 48) C dX10_remainders_48 ?_
    refine aw_lrem (pc := 49) C dX10_remainders_49 (fun z49 => ?_)
    refine aw_iload_n (pc := 50) C dX10_remainders_50 rfl 1 rfl ?_
    refine aw_i2l (pc := 51) C dX10_remainders_51 ?_
    refine aw_ladd (pc := 52) C dX10_remainders_52 ?_
    refine aw_iload_n (pc := 53) C dX10_remainders_53 rfl 1 rfl ?_
    refine aw_i2l (pc := 54) C dX10_remainders_54 ?_
    refine aw_lrem (pc := 55) C dX10_remainders_55 (fun z55 => ?_)
    refine aw_l2i (pc := 56) C dX10_remainders_56 ?_
    refine aw_iconst (pc := 57) (v := 1) C dX10_remainders_57 (by decide) ?_
    refine aw_bastore (pc := 58) C (show vp_nar .boolean 1 = 1 from rfl) dX10_remainders_58 (fun h19 eh19 => ?_)
    refine aw_iincN (pc := 59) (L1 := [(0, rf E a0), (1, .int a1), (2, .int v8)]) (k := 1) C dX10_remainders_59 3 rfl (by decide) (by decide) rfl (fun v20 ev20 => ?_)
    refine aw_goto (pc := 62) C 30 dX10_remainders_62 (by decide) ?_
    exact aw_sub (L' := [(0, rf E a0), (1, .int a1), (2, .int v8), (3, .int v20)]) [1, 2, 3, 0] rfl (ih15 (v20, h19))
  refine aw_aload_n (pc := 8) C dX10_remainders_8 rfl 0 rfl ?_
  refine aw_getR (pc := 9) C fl_X10_59 dX10_remainders_9 (fun v5 ev5 => ?_)
  refine aw_iload_n (pc := 12) C dX10_remainders_12 rfl 2 rfl ?_
  refine aw_iconst (pc := 13) (v := 0) C dX10_remainders_13 (by decide) ?_
  refine aw_bastore (pc := 14) C (show vp_nar .boolean 0 = 0 from rfl) dX10_remainders_14 (fun h6 eh6 => ?_)
  refine aw_iincN (pc := 15) (L1 := [(0, rf E a0), (1, .int a1)]) (k := 1) C dX10_remainders_15 2 rfl (by decide) (by decide) rfl (fun v7 ev7 => ?_)
  refine aw_goto (pc := 18) C 2 dX10_remainders_18 (by decide) ?_
  exact aw_sub (L' := [(0, rf E a0), (1, .int a1), (2, .int v7)]) [1, 2, 0] rfl (ih4 (v7, h6))
def rmX10_bars : Room := { frames := 3, cells := 0, slots := 0, locals := 75 }
set_option maxHeartbeats 4000000 in
set_option maxRecDepth 100000 in
theorem okX10_bars (E : Ev) (l : Launch) (a0 : Nat) (a1 : Int32) (h0 : Mem) : AMet E l yX10_bars cX10_bars 3 (some (.boolean)) rmX10_bars [rf E a0, .int a1] h0 rvI (fX10_bars a0 a1 h0) := by
  refine am_intro (plainFor_of_name (by decide +kernel)) (Nat.le_of_ble_eq_true rfl) (fun K hKl C hr hnm hz0 => ?_)
  replace C : CxOK K E RX10 cX10_bars 3 := C
  have hE : E.1 + 1 ≤ (kS K).heap.size := by omega
  unfold fX10_bars
  show Aw K E _ _ _ _ _ 0 [(0, rf E a0), (1, .int a1)] [] h0 _
  refine aw_aload_n (pc := 0) C dX10_bars_0 rfl 0 rfl ?_
  refine aw_iload_n (pc := 1) C dX10_bars_1 rfl 1 rfl ?_
  refine aw_callVI (pc := 2) (R := rmX10_bars) (c := 10) (As := [.int a1]) (rest := []) (st := [.int a1, rf E a0]) (c' := 0) (s' := 0) C hE rfl (by decide) cal_X10_remainders ml_X10_174 rfl ⟨(Nat.le_of_ble_eq_true rfl), (Nat.le_of_ble_eq_true rfl)⟩ ⟨(Nat.le_of_ble_eq_true rfl), (Nat.le_of_ble_eq_true rfl)⟩ dX10_bars_2 (okX10_remainders E (kL K) a0 a1 h0) rfl (Nat.le_of_ble_eq_true rfl) rfl rfl (fun v2 h1 eh1 => ?_)
  refine aw_istore_n (pc := 5) (L' := [(2, .int v2), (0, rf E a0), (1, .int a1)]) C dX10_bars_5 rfl (by decide) rfl ?_
  refine aw_aload_n (pc := 6) C dX10_bars_6 rfl 1 rfl ?_
  refine aw_getR (pc := 7) C fl_X10_59 dX10_bars_7 (fun v3 ev3 => ?_)
  refine aw_aload_n (pc := 10) C dX10_bars_10 rfl 1 rfl ?_
  refine aw_getI (pc := 11) C fl_X10_19 dX10_bars_11 (fun v4 ev4 => ?_)
  refine aw_iload_n (pc := 14) C dX10_bars_14 rfl 2 rfl ?_
  refine aw_irem (pc := 15) C dX10_bars_15 (fun z15 => ?_)
  refine aw_iload_n (pc := 16) C dX10_bars_16 rfl 2 rfl ?_
  refine aw_iadd (pc := 17) C dX10_bars_17 ?_
  refine aw_iload_n (pc := 18) C dX10_bars_18 rfl 2 rfl ?_
  refine aw_irem (pc := 19) C dX10_bars_19 (fun z19 => ?_)
  refine aw_baload (pc := 20) C dX10_bars_20 (fun v5 ev5 => ?_)
  refine aw_if_ne (pc := 21) C 28 dX10_bars_21 (by decide) (fun c6 => ?_) (fun c6 => ?_)
  · refine aw_iconst (pc := 24) (v := 1) C dX10_bars_24 (by decide) ?_
    refine aw_goto (pc := 25) C 29 dX10_bars_25 (by decide) ?_
    exact aw_ireturn (pc := 29) C hr rfl hz0 rfl dX10_bars_29
  refine aw_iconst (pc := 28) (v := 0) C dX10_bars_28 (by decide) ?_
  exact aw_ireturn (pc := 29) C hr rfl hz0 rfl dX10_bars_29
