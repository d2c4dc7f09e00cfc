/-- how many turns a loop is given: a million; the kernel must not unfold it -/
theorem FU_ex : ∃ n : Nat, n = 1000000 := ⟨_, rfl⟩
noncomputable def FU : Nat := Classical.choose FU_ex
theorem FU_eq : FU = 1000000 := Classical.choose_spec FU_ex
noncomputable def fX2_init (a0 : Nat) (h0 : Mem) : Option (Unit × Mem) :=
 (pI 2 h0 a0 0 3).bind fun h1 =>
 nwA 11 5 5 h1 fun v2 h3 =>
 (pR 2 h3 a0 1 v2).bind fun h4 =>
 nwA 12 5 5 h4 fun v5 h6 =>
 (pR 2 h6 a0 2 v5).bind fun h7 =>
 nwA 12 5 5 h7 fun v8 h9 =>
 (pR 2 h9 a0 3 v8).bind fun h10 =>
 some ((), h10)
noncomputable def fX1_init (a0 : Nat) (h0 : Mem) : Option (Unit × Mem) :=
 nwO 2 4 h0 fun v1 h2 =>
 (fX2_init v1 h2).bind (fun ((_u, h3) : Unit × Mem) =>
  (pR 1 h3 a0 0 v1).bind fun h4 =>
  (pI 1 h4 a0 1 1).bind fun h5 =>
  (pI 1 h5 a0 2 10).bind fun h6 =>
  some ((), h6))
noncomputable def fJ9_max_7cf53 (a0 : Int32) (a1 : Int32) (h0 : Mem) : Option (Int32 × Mem) :=
 if a0 < a1 then
  some ((a1 : Int32), h0)
 else
  some ((a0 : Int32), h0)
noncomputable def fX4_init (a0 : Nat) (a1 : Int32) (h0 : Mem) : Option (Unit × Mem) :=
 (pI 4 h0 a0 0 0).bind fun h1 =>
 (fJ9_max_7cf53 0 a1 h1).bind (fun ((v3, h2) : Int32 × Mem) =>
  nwA 11 36 (v3 * 3) h2 fun v4 h5 =>
  (pR 4 h5 a0 1 v4).bind fun h6 =>
  some ((), h6))
noncomputable def fX6_init (a0 : Nat) (h0 : Mem) : Option (Unit × Mem) :=
 nwO 1 3 h0 fun v1 h2 =>
 (fX1_init v1 h2).bind (fun ((_u, h3) : Unit × Mem) =>
  (pR 6 h3 a0 0 v1).bind fun h4 =>
  nwO 4 2 h4 fun v5 h6 =>
  (fX4_init v5 4 h6).bind (fun ((_u, h7) : Unit × Mem) =>
   (pR 6 h7 a0 1 v5).bind fun h8 =>
   nwO 4 2 h8 fun v9 h10 =>
   (fX4_init v9 8 h10).bind (fun ((_u, h11) : Unit × Mem) =>
    (pR 6 h11 a0 2 v9).bind fun h12 =>
    nwO 4 2 h12 fun v13 h14 =>
    (fX4_init v13 8 h14).bind (fun ((_u, h15) : Unit × Mem) =>
     (pR 6 h15 a0 3 v13).bind fun h16 =>
     some ((), h16)))))
noncomputable def fX0_init (a0 : Nat) (h0 : Mem) : Option (Unit × Mem) :=
 (pI 0 h0 a0 0 0).bind fun h1 =>
 (pI 0 h1 a0 1 0).bind fun h2 =>
 (pI 0 h2 a0 2 0).bind fun h3 =>
 (pI 0 h3 a0 3 0).bind fun h4 =>
 nwO 1 3 h4 fun v5 h6 =>
 (fX1_init v5 h6).bind (fun ((_u, h7) : Unit × Mem) =>
  (pR 0 h7 a0 4 v5).bind fun h8 =>
  nwA 11 6561 6561 h8 fun v9 h10 =>
  (pR 0 h10 a0 5 v9).bind fun h11 =>
  some ((), h11))
noncomputable def fX8_init (a0 : Nat) (h0 : Mem) : Option (Unit × Mem) :=
 (pI 8 h0 a0 0 0).bind fun h1 =>
 nwA 11 416 416 h1 fun v2 h3 =>
 (pR 8 h3 a0 1 v2).bind fun h4 =>
 some ((), h4)
noncomputable def fX3_init (a0 : Nat) (h0 : Mem) : Option (Unit × Mem) :=
 (pI 3 h0 a0 0 0).bind fun h1 =>
 (pI 3 h1 a0 1 0).bind fun h2 =>
 nwA 12 5 5 h2 fun v3 h4 =>
 (pR 3 h4 a0 2 v3).bind fun h5 =>
 nwA 11 8 8 h5 fun v6 h7 =>
 (pR 3 h7 a0 3 v6).bind fun h8 =>
 nwA 12 8 8 h8 fun v9 h10 =>
 (pR 3 h10 a0 4 v9).bind fun h11 =>
 nwA 12 8 8 h11 fun v12 h13 =>
 (pR 3 h13 a0 5 v12).bind fun h14 =>
 some ((), h14)
noncomputable def fX5_init (a0 : Nat) (h0 : Mem) : Option (Unit × Mem) :=
 (pI 5 h0 a0 0 0).bind fun h1 =>
 nwO 4 2 h1 fun v2 h3 =>
 (fX4_init v2 12 h3).bind (fun ((_u, h4) : Unit × Mem) =>
  (pR 5 h4 a0 1 v2).bind fun h5 =>
  nwA 11 100 100 h5 fun v6 h7 =>
  (pR 5 h7 a0 2 v6).bind fun h8 =>
  (pI 5 h8 a0 3 0).bind fun h9 =>
  (pI 5 h9 a0 4 0).bind fun h10 =>
  (pI 5 h10 a0 5 0).bind fun h11 =>
  some ((), h11))
noncomputable def fX7_init (a0 : Nat) (h0 : Mem) : Option (Unit × Mem) :=
 (pI 7 h0 a0 0 (-1)).bind fun h1 =>
 nwA 12 60 60 h1 fun v2 h3 =>
 (pR 7 h3 a0 1 v2).bind fun h4 =>
 (pI 7 h4 a0 2 0).bind fun h5 =>
 some ((), h5)
noncomputable def fX9_init (a0 : Nat) (h0 : Mem) : Option (Unit × Mem) :=
 nwO 6 4 h0 fun v1 h2 =>
 (fX6_init v1 h2).bind (fun ((_u, h3) : Unit × Mem) =>
  (pR 9 h3 a0 0 v1).bind fun h4 =>
  nwO 6 4 h4 fun v5 h6 =>
  (fX6_init v5 h6).bind (fun ((_u, h7) : Unit × Mem) =>
   (pR 9 h7 a0 1 v5).bind fun h8 =>
   (pI 9 h8 a0 2 0).bind fun h9 =>
   nwO 1 3 h9 fun v10 h11 =>
   (fX1_init v10 h11).bind (fun ((_u, h12) : Unit × Mem) =>
    (pR 9 h12 a0 3 v10).bind fun h13 =>
    nwO 0 6 h13 fun v14 h15 =>
    (fX0_init v14 h15).bind (fun ((_u, h16) : Unit × Mem) =>
     (pR 9 h16 a0 4 v14).bind fun h17 =>
     nwO 8 2 h17 fun v18 h19 =>
     (fX8_init v18 h19).bind (fun ((_u, h20) : Unit × Mem) =>
      (pR 9 h20 a0 5 v18).bind fun h21 =>
      nwO 3 6 h21 fun v22 h23 =>
      (fX3_init v22 h23).bind (fun ((_u, h24) : Unit × Mem) =>
       (pR 9 h24 a0 6 v22).bind fun h25 =>
       nwO 5 6 h25 fun v26 h27 =>
       (fX5_init v26 h27).bind (fun ((_u, h28) : Unit × Mem) =>
        (pR 9 h28 a0 7 v26).bind fun h29 =>
        nwA 14 6 6 h29 fun v30 h31 =>
        (pR 9 h31 a0 8 v30).bind fun h32 =>
        (gR 9 h32 a0 8).bind fun v33 =>
        (aLn h32 v33).bind fun v34 =>
        if v34 ≤ 0 then
         none
        else
         (gR 9 h32 a0 8).bind fun v35 =>
         nwO 7 3 h32 fun v36 h37 =>
         (fX7_init v36 h37).bind (fun ((_u, h38) : Unit × Mem) =>
          (yR h38 v35 0 v36).bind fun h39 =>
          (gR 9 h39 a0 8).bind fun v40 =>
          (aLn h39 v40).bind fun v41 =>
          if v41 ≤ 1 then
           none
          else
           (gR 9 h39 a0 8).bind fun v42 =>
           nwO 7 3 h39 fun v43 h44 =>
           (fX7_init v43 h44).bind (fun ((_u, h45) : Unit × Mem) =>
            (yR h45 v42 1 v43).bind fun h46 =>
            (gR 9 h46 a0 8).bind fun v47 =>
            (aLn h46 v47).bind fun v48 =>
            if v48 ≤ 2 then
             none
            else
             (gR 9 h46 a0 8).bind fun v49 =>
             nwO 7 3 h46 fun v50 h51 =>
             (fX7_init v50 h51).bind (fun ((_u, h52) : Unit × Mem) =>
              (yR h52 v49 2 v50).bind fun h53 =>
              (gR 9 h53 a0 8).bind fun v54 =>
              (aLn h53 v54).bind fun v55 =>
              if v55 ≤ 3 then
               none
              else
               (gR 9 h53 a0 8).bind fun v56 =>
               nwO 7 3 h53 fun v57 h58 =>
               (fX7_init v57 h58).bind (fun ((_u, h59) : Unit × Mem) =>
                (yR h59 v56 3 v57).bind fun h60 =>
                (gR 9 h60 a0 8).bind fun v61 =>
                (aLn h60 v61).bind fun v62 =>
                if v62 ≤ 4 then
                 none
                else
                 (gR 9 h60 a0 8).bind fun v63 =>
                 nwO 7 3 h60 fun v64 h65 =>
                 (fX7_init v64 h65).bind (fun ((_u, h66) : Unit × Mem) =>
                  (yR h66 v63 4 v64).bind fun h67 =>
                  (gR 9 h67 a0 8).bind fun v68 =>
                  (aLn h67 v68).bind fun v69 =>
                  if v69 ≤ 5 then
                   none
                  else
                   (gR 9 h67 a0 8).bind fun v70 =>
                   nwO 7 3 h67 fun v71 h72 =>
                   (fX7_init v71 h72).bind (fun ((_u, h73) : Unit × Mem) =>
                    (yR h73 v70 5 v71).bind fun h74 =>
                    (gR 9 h74 a0 8).bind fun v75 =>
                    (aLn h74 v75).bind fun v76 =>
                    if v76 ≤ 6 then
                     some ((), h74)
                    else
                     none)))))))))))))
noncomputable def fX9_between (a0 : Int32) (a1 : Int32) (a2 : Int32) (h0 : Mem) : Option (Int32 × Mem) :=
 if a0 < a1 then
  some ((0 : Int32), h0)
 else
  if a2 < a0 then
   some ((0 : Int32), h0)
  else
   some ((1 : Int32), h0)
noncomputable def fJ7_fill_53178 (a0 : Nat) (a1 : Int32) (h0 : Mem) : Option (Unit × Mem) :=
 (aLn h0 a0).bind fun v1 =>
 lpF (fun k4 ((v2, h3) : Int32 × Mem) =>
  if v1 ≤ v2 then
   some ((), h3)
  else
   (yI 11 h3 a0 v2 a1).bind fun h6 =>
   nm (v2 + 1 : Int32) fun v7 =>
   k4 (v7, h6)) FU (0, h0)
noncomputable def fX2_clear (a0 : Nat) (a1 : Int32) (h0 : Mem) : Option (Unit × Mem) :=
 (pI 2 h0 a0 0 a1).bind fun h1 =>
 (gR 2 h1 a0 1).bind fun v2 =>
 (fJ7_fill_53178 v2 0 h1).bind (fun ((_u, h3) : Unit × Mem) =>
  some ((), h3))
noncomputable def fX9_degree (a0 : Nat) (a1 : Int32) (h0 : Mem) : Option (Int32 × Mem) :=
 (fX9_between a1 2 4 h0).bind (fun ((v2, h1) : Int32 × Mem) =>
  if v2 = 0 then
   some (((-2) : Int32), h1)
  else
   (gR 9 h1 a0 0).bind fun v3 =>
   (gR 6 h1 v3 0).bind fun v4 =>
   (gR 1 h1 v4 0).bind fun v5 =>
   (gI 2 h1 v5 0).bind fun v6 =>
   (gR 9 h1 a0 0).bind fun v7 =>
   (gR 6 h1 v7 0).bind fun v8 =>
   (gR 1 h1 v8 0).bind fun v9 =>
   if mKd h1 v9 = 2 then (fX2_clear v9 a1 h1).bind (fun ((_u, h10) : Unit × Mem) =>
    some ((v6 : Int32), h10)) else none)
noncomputable def fX2_has (a0 : Nat) (a1 : Int32) (h0 : Mem) : Option (Int32 × Mem) :=
 if a1 < 0 then
  some ((0 : Int32), h0)
 else
  (gI 2 h0 a0 0).bind fun v1 =>
  if v1 < a1 then
   some ((0 : Int32), h0)
  else
   (gR 2 h0 a0 1).bind fun v2 =>
   (aLn h0 v2).bind fun v3 =>
   if v3 ≤ a1 then
    some ((0 : Int32), h0)
   else
    some ((1 : Int32), h0)
noncomputable def fX2_get (a0 : Nat) (a1 : Int32) (h0 : Mem) : Option (Int32 × Mem) :=
 if mKd h0 a0 = 2 then (fX2_has a0 a1 h0).bind (fun ((v2, h1) : Int32 × Mem) =>
  if v2 = 0 then
   some ((0 : Int32), h1)
  else
   (gR 2 h1 a0 1).bind fun v3 =>
   (xI 11 h1 v3 a1).bind fun v4 =>
   some ((v4 : Int32), h1)) else none
noncomputable def fX2_set (a0 : Nat) (a1 : Int32) (a2 : Int32) (h0 : Mem) : Option (Unit × Mem) :=
 if mKd h0 a0 = 2 then (fX2_has a0 a1 h0).bind (fun ((v2, h1) : Int32 × Mem) =>
  if v2 = 0 then
   some ((), h1)
  else
   (gR 2 h1 a0 1).bind fun v3 =>
   (yI 11 h1 v3 a1 a2).bind fun h4 =>
   some ((), h4)) else none
noncomputable def fX9_number (a0 : Nat) (a1 : Int32) (a2 : Int32) (h0 : Mem) : Option (Int32 × Mem) :=
 (gR 9 h0 a0 0).bind fun v1 =>
 (gR 6 h0 v1 0).bind fun v2 =>
 (gR 1 h0 v2 0).bind fun v3 =>
 if mKd h0 v3 = 2 then (fX2_has v3 a1 h0).bind (fun ((v5, h4) : Int32 × Mem) =>
  if v5 = 0 then
   some (((-1) : Int32), h4)
  else
   (fX9_between a2 (-99) 99 h4).bind (fun ((v7, h6) : Int32 × Mem) =>
    if v7 = 0 then
     some (((-2) : Int32), h6)
    else
     if mKd h6 v3 = 2 then (fX2_get v3 a1 h6).bind (fun ((v9, h8) : Int32 × Mem) =>
      if mKd h8 v3 = 2 then (fX2_set v3 a1 a2 h8).bind (fun ((_u, h10) : Unit × Mem) =>
       some ((v9 + 100 : Int32), h10)) else none) else none)) else none
noncomputable def fX9_equal (a0 : Nat) (a1 : Int32) (h0 : Mem) : Option (Int32 × Mem) :=
 (fX9_between a1 (-9999) 9999 h0).bind (fun ((v2, h1) : Int32 × Mem) =>
  if v2 = 0 then
   some (((-2) : Int32), h1)
  else
   (gR 9 h1 a0 0).bind fun v3 =>
   (gR 6 h1 v3 0).bind fun v4 =>
   (gI 1 h1 v4 1).bind fun v5 =>
   (gR 9 h1 a0 0).bind fun v6 =>
   (gR 6 h1 v6 0).bind fun v7 =>
   (pI 1 h1 v7 1 a1).bind fun h8 =>
   some ((v5 + 10000 : Int32), h8))
noncomputable def fX9_window (a0 : Nat) (a1 : Int32) (h0 : Mem) : Option (Int32 × Mem) :=
 (fX9_between a1 1 40 h0).bind (fun ((v2, h1) : Int32 × Mem) =>
  if v2 = 0 then
   some (((-2) : Int32), h1)
  else
   (gR 9 h1 a0 0).bind fun v3 =>
   (gR 6 h1 v3 0).bind fun v4 =>
   (gI 1 h1 v4 2).bind fun v5 =>
   (gR 9 h1 a0 0).bind fun v6 =>
   (gR 6 h1 v6 0).bind fun v7 =>
   (pI 1 h1 v7 2 a1).bind fun h8 =>
   some ((v5 : Int32), h8))
noncomputable def fX2_isMove (a0 : Int32) (h0 : Mem) : Option (Int32 × Mem) :=
 if a0 < 0 then
  some ((0 : Int32), h0)
 else
  if 5 ≤ a0 then
   some ((0 : Int32), h0)
  else
   some ((1 : Int32), h0)
noncomputable def fJ7_fill_d0a16 (a0 : Nat) (a1 : Int64) (h0 : Mem) : Option (Unit × Mem) :=
 (aLn h0 a0).bind fun v1 =>
 lpF (fun k4 ((v2, h3) : Int32 × Mem) =>
  if v1 ≤ v2 then
   some ((), h3)
  else
   (yJ h3 a0 v2 a1).bind fun h6 =>
   nm (v2 + 1 : Int32) fun v7 =>
   k4 (v7, h6)) FU (0, h0)
noncomputable def fX2_multiply (a0 : Nat) (a1 : Int32) (a2 : Int32) (h0 : Mem) : Option (Unit × Mem) :=
 (aLn h0 a0).bind fun v1 =>
 nm (v1 - 1 : Int32) fun v2 =>
 lpF (fun k5 ((v3, h4) : Int32 × Mem) =>
  if v3 ≤ 0 then
   (xJ h4 a0 0).bind fun v11 =>
   (yJ h4 a0 0 (a1.toInt64 * v11)).bind fun h12 =>
   some ((), h12)
  else
   (xJ h4 a0 v3).bind fun v7 =>
   (xJ h4 a0 (v3 - 1)).bind fun v8 =>
   (yJ h4 a0 v3 ((a1.toInt64 * v7) + (a2.toInt64 * v8))).bind fun h9 =>
   nm (v3 + (-1) : Int32) fun v10 =>
   k5 (v10, h9)) FU (v2, h0)
noncomputable def fX2_findTurned (a0 : Nat) (a1 : Int32) (a2 : Int32) (a3 : Int32) (a4 : Int32) (h0 : Mem) : Option (Unit × Mem) :=
 (gR 2 h0 a0 2).bind fun v1 =>
 (fJ7_fill_d0a16 v1 0 h0).bind (fun ((_u, h2) : Unit × Mem) =>
  (gR 2 h2 a0 3).bind fun v3 =>
  (fJ7_fill_d0a16 v3 0 h2).bind (fun ((_u, h4) : Unit × Mem) =>
   (gR 2 h4 a0 2).bind fun v5 =>
   (gR 2 h4 a0 1).bind fun v6 =>
   (xI 11 h4 v6 0).bind fun v7 =>
   (yJ h4 v5 0 v7.toInt64).bind fun h8 =>
   (gR 2 h8 a0 3).bind fun v9 =>
   (yJ h8 v9 0 1).bind fun h10 =>
   lpF (fun k13 ((v11, h12) : Int32 × Mem) =>
    (gI 2 h12 a0 0).bind fun v15 =>
    if v15 < v11 then
     some ((), h12)
    else
     (gR 2 h12 a0 1).bind fun v16 =>
     (aLn h12 v16).bind fun v17 =>
     if v17 ≤ v11 then
      some ((), h12)
     else
      (gR 2 h12 a0 3).bind fun v18 =>
      (fX2_multiply v18 a3 a4 h12).bind (fun ((_u, h19) : Unit × Mem) =>
       (gR 2 h19 a0 2).bind fun v20 =>
       (fX2_multiply v20 a1 a2 h19).bind (fun ((_u, h21) : Unit × Mem) =>
        lpF (fun k24 ((v22, h23) : Int32 × Mem) =>
         (gR 2 h23 a0 2).bind fun v26 =>
         (aLn h23 v26).bind fun v27 =>
         if v27 ≤ v22 then
          nm (v11 + 1 : Int32) fun v40 =>
          k13 (v40, h23)
         else
          (gR 2 h23 a0 3).bind fun v28 =>
          (aLn h23 v28).bind fun v29 =>
          if v29 ≤ v22 then
           nm (v11 + 1 : Int32) fun v38 =>
           k13 (v38, h23)
          else
           (gR 2 h23 a0 2).bind fun v30 =>
           (xJ h23 v30 v22).bind fun v31 =>
           (gR 2 h23 a0 1).bind fun v32 =>
           (xI 11 h23 v32 v11).bind fun v33 =>
           (gR 2 h23 a0 3).bind fun v34 =>
           (xJ h23 v34 v22).bind fun v35 =>
           (yJ h23 v30 v22 (v31 + (v33.toInt64 * v35))).bind fun h36 =>
           nm (v22 + 1 : Int32) fun v37 =>
           k24 (v37, h36)) FU (0, h21)))) FU (1, h10)))
noncomputable def fX2_turnBy (a0 : Nat) (a1 : Int32) (a2 : Int32) (a3 : Int32) (a4 : Int32) (h0 : Mem) : Option (Int32 × Mem) :=
 if mKd h0 a0 = 2 then (fX2_findTurned a0 a1 a2 a3 a4 h0).bind (fun ((_u, h1) : Unit × Mem) =>
  lpF (fun k3 (v2 : Int32) =>
   (gR 2 h1 a0 2).bind fun v5 =>
   (aLn h1 v5).bind fun v6 =>
   if v6 ≤ v2 then
    lpF (fun k16 ((v14, h15) : Int32 × Mem) =>
     (gR 2 h15 a0 2).bind fun v18 =>
     (aLn h15 v18).bind fun v19 =>
     if v19 ≤ v14 then
      some ((1 : Int32), h15)
     else
      (gR 2 h15 a0 1).bind fun v20 =>
      (aLn h15 v20).bind fun v21 =>
      if v21 ≤ v14 then
       some ((1 : Int32), h15)
      else
       (gR 2 h15 a0 1).bind fun v22 =>
       (gR 2 h15 a0 2).bind fun v23 =>
       (xJ h15 v23 v14).bind fun v24 =>
       (yI 11 h15 v22 v14 v24.toInt32).bind fun h25 =>
       nm (v14 + 1 : Int32) fun v26 =>
       k16 (v26, h25)) FU (0, h1)
   else
    (gR 2 h1 a0 2).bind fun v7 =>
    (xJ h1 v7 v2).bind fun v8 =>
    if 0 < (lg_cmp v8 99) then
     some ((0 : Int32), h1)
    else
     (gR 2 h1 a0 2).bind fun v9 =>
     (xJ h1 v9 v2).bind fun v10 =>
     if 0 ≤ (lg_cmp v10 (-99)) then
      nm (v2 + 1 : Int32) fun v11 =>
      k3 v11
     else
      some ((0 : Int32), h1)) FU 0) else none
noncomputable def fX2_moveBy (a0 : Nat) (a1 : Int32) (h0 : Mem) : Option (Int32 × Mem) :=
 (fX2_isMove a1 h0).bind (fun ((v2, h1) : Int32 × Mem) =>
  if v2 = 0 then
   some ((0 : Int32), h1)
  else
   nm (a1 * 4 : Int32) fun v3 =>
   jn (fun (_ : Unit) =>
    lpF (fun k8 ((v6, h7) : Int32 × Mem) =>
     (gR 2 h7 a0 1).bind fun v10 =>
     (aLn h7 v10).bind fun v11 =>
     if v11 ≤ v6 then
      some ((1 : Int32), h7)
     else
      (gR 2 h7 a0 1).bind fun v12 =>
      (gR 2 h7 a0 1).bind fun v13 =>
      (xI 11 h7 v13 v6).bind fun v14 =>
      (yI 11 h7 v12 v6 (-v14)).bind fun h15 =>
      nm (v6 + 1 : Int32) fun v16 =>
      k8 (v16, h15)) FU (0, h1)) (fun k4 =>
    if 4 ≤ a1 then
     k4 ()
    else
     if 16 ≤ (v3 + 3) then
      k4 ()
     else
      (xT tabM 16 v3).bind fun v18 =>
      (xT tabM 16 (v3 + 1)).bind fun v19 =>
      (xT tabM 16 (v3 + 2)).bind fun v20 =>
      (xT tabM 16 (v3 + 3)).bind fun v21 =>
      if mKd h1 a0 = 2 then (fX2_turnBy a0 v18 v19 v20 v21 h1).bind (fun ((v23, h22) : Int32 × Mem) =>
       if v23 = 0 ∨ v23 = 1 then some (v23, h22) else none) else none))
noncomputable def fX9_move (a0 : Nat) (a1 : Int32) (h0 : Mem) : Option (Int32 × Mem) :=
 (fX2_isMove a1 h0).bind (fun ((v2, h1) : Int32 × Mem) =>
  if v2 = 0 then
   some (((-1) : Int32), h1)
  else
   (gR 9 h1 a0 0).bind fun v3 =>
   (gR 6 h1 v3 0).bind fun v4 =>
   (gR 1 h1 v4 0).bind fun v5 =>
   if mKd h1 v5 = 2 then (fX2_moveBy v5 a1 h1).bind (fun ((v7, h6) : Int32 × Mem) =>
    if v7 = 0 then
     some (((-3) : Int32), h6)
    else
     some ((1 : Int32), h6)) else none)
noncomputable def fX9_isTurn (a0 : Int32) (h0 : Mem) : Option (Int32 × Mem) :=
 (fX9_between a0 (-9) 9 h0).bind (fun ((v2, h1) : Int32 × Mem) =>
  if v2 = 0 ∨ v2 = 1 then some (v2, h1) else none)
noncomputable def fX9_turn (a0 : Nat) (a1 : Int32) (a2 : Int32) (a3 : Int32) (a4 : Int32) (h0 : Mem) : Option (Int32 × Mem) :=
 (fX9_isTurn a1 h0).bind (fun ((v2, h1) : Int32 × Mem) =>
  if v2 = 0 then
   some (((-2) : Int32), h1)
  else
   (fX9_isTurn a2 h1).bind (fun ((v4, h3) : Int32 × Mem) =>
    if v4 = 0 then
     some (((-2) : Int32), h3)
    else
     (fX9_isTurn a3 h3).bind (fun ((v6, h5) : Int32 × Mem) =>
      if v6 = 0 then
       some (((-2) : Int32), h5)
      else
       (fX9_isTurn a4 h5).bind (fun ((v8, h7) : Int32 × Mem) =>
        if v8 = 0 then
         some (((-2) : Int32), h7)
        else
         (gR 9 h7 a0 0).bind fun v9 =>
         (gR 6 h7 v9 0).bind fun v10 =>
         (gR 1 h7 v10 0).bind fun v11 =>
         if mKd h7 v11 = 2 then (fX2_turnBy v11 a1 a2 a3 a4 h7).bind (fun ((v13, h12) : Int32 × Mem) =>
          if v13 = 0 then
           some (((-3) : Int32), h12)
          else
           some ((1 : Int32), h12)) else none))))
noncomputable def fX5_add (a0 : Nat) (a1 : Int32) (h0 : Mem) : Option (Int32 × Mem) :=
 (gI 5 h0 a0 0).bind fun v1 =>
 if v1 < 0 then
  some ((0 : Int32), h0)
 else
  (gI 5 h0 a0 0).bind fun v2 =>
  (gR 5 h0 a0 2).bind fun v3 =>
  (aLn h0 v3).bind fun v4 =>
  if v2 < v4 then
   (gR 5 h0 a0 2).bind fun v5 =>
   (gI 5 h0 a0 0).bind fun v6 =>
   (yI 11 h0 v5 v6 a1).bind fun h7 =>
   (gI 5 h7 a0 0).bind fun v8 =>
   (pI 5 h7 a0 0 (v8 + 1)).bind fun h9 =>
   some ((1 : Int32), h9)
  else
   some ((0 : Int32), h0)
noncomputable def fX9_feed (a0 : Nat) (a1 : Int32) (h0 : Mem) : Option (Int32 × Mem) :=
 (fX9_between a1 0 127 h0).bind (fun ((v2, h1) : Int32 × Mem) =>
  if v2 = 0 then
   some (((-2) : Int32), h1)
  else
   (gR 9 h1 a0 7).bind fun v3 =>
   if mKd h1 v3 = 5 then (fX5_add v3 a1 h1).bind (fun ((v5, h4) : Int32 × Mem) =>
    if v5 = 0 then
     some (((-4) : Int32), h4)
    else
     (gR 9 h4 a0 7).bind fun v6 =>
     (gI 5 h4 v6 0).bind fun v7 =>
     some ((v7 : Int32), h4)) else none)
noncomputable def fX4_empty (a0 : Nat) (h0 : Mem) : Option (Int32 × Mem) :=
 (pI 4 h0 a0 0 0).bind fun h1 =>
 some ((0 : Int32), h1)
noncomputable def fX5_next (a0 : Nat) (h0 : Mem) : Option (Int32 × Mem) :=
 (gI 5 h0 a0 3).bind fun v1 =>
 if v1 < 0 then
  some (((-1) : Int32), h0)
 else
  (gI 5 h0 a0 3).bind fun v2 =>
  (gI 5 h0 a0 0).bind fun v3 =>
  if v3 ≤ v2 then
   some (((-1) : Int32), h0)
  else
   (gI 5 h0 a0 3).bind fun v4 =>
   (gR 5 h0 a0 2).bind fun v5 =>
   (aLn h0 v5).bind fun v6 =>
   if v6 ≤ v4 then
    some (((-1) : Int32), h0)
   else
    (gR 5 h0 a0 2).bind fun v7 =>
    (gI 5 h0 a0 3).bind fun v8 =>
    (xI 11 h0 v7 v8).bind fun v9 =>
    some ((v9 : Int32), h0)
noncomputable def fX5_hasDigit (a0 : Int32) (h0 : Mem) : Option (Int32 × Mem) :=
 if a0 = 100 then
  some ((1 : Int32), h0)
 else
  if a0 = 97 then
   some ((1 : Int32), h0)
  else
   if a0 = 116 then
    some ((1 : Int32), h0)
   else
    some ((0 : Int32), h0)
noncomputable def fX5_hasNumber (a0 : Int32) (h0 : Mem) : Option (Int32 × Mem) :=
 if a0 = 97 then
  some ((1 : Int32), h0)
 else
  if a0 = 61 then
   some ((1 : Int32), h0)
  else
   if a0 = 119 then
    some ((1 : Int32), h0)
   else
    some ((0 : Int32), h0)
noncomputable def fX5_isKind (a0 : Int32) (h0 : Mem) : Option (Int32 × Mem) :=
 (fX5_hasDigit a0 h0).bind (fun ((v2, h1) : Int32 × Mem) =>
  if v2 = 0 then
   (fX5_hasNumber a0 h1).bind (fun ((v4, h3) : Int32 × Mem) =>
    if v4 = 0 then
     some ((0 : Int32), h3)
    else
     some ((1 : Int32), h3))
  else
   some ((1 : Int32), h1))
noncomputable def fX5_isAtDigit (a0 : Nat) (h0 : Mem) : Option (Int32 × Mem) :=
 if mKd h0 a0 = 5 then (fX5_next a0 h0).bind (fun ((v2, h1) : Int32 × Mem) =>
  if v2 < 48 then
   some ((0 : Int32), h1)
  else
   if mKd h1 a0 = 5 then (fX5_next a0 h1).bind (fun ((v4, h3) : Int32 × Mem) =>
    if 57 < v4 then
     some ((0 : Int32), h3)
    else
     some ((1 : Int32), h3)) else none) else none
noncomputable def fX5_takeDigit (a0 : Nat) (h0 : Mem) : Option (Int32 × Mem) :=
 if mKd h0 a0 = 5 then (fX5_isAtDigit a0 h0).bind (fun ((v2, h1) : Int32 × Mem) =>
  if v2 = 0 then
   some ((0 : Int32), h1)
  else
   if mKd h1 a0 = 5 then (fX5_next a0 h1).bind (fun ((v4, h3) : Int32 × Mem) =>
    (pI 5 h3 a0 4 (v4 - 48)).bind fun h5 =>
    (gI 5 h5 a0 3).bind fun v6 =>
    (pI 5 h5 a0 3 (v6 + 1)).bind fun h7 =>
    some ((1 : Int32), h7)) else none) else none
noncomputable def fX5_takeNumber (a0 : Nat) (h0 : Mem) : Option (Int32 × Mem) :=
 if mKd h0 a0 = 5 then (fX5_next a0 h0).bind (fun ((v2, h1) : Int32 × Mem) =>
  jn (fun (v3 : Int32) =>
   jn (fun (h6 : Mem) =>
    if mKd h6 a0 = 5 then (fX5_isAtDigit a0 h6).bind (fun ((v10, h9) : Int32 × Mem) =>
     if v10 = 0 then
      some ((0 : Int32), h9)
     else
      lpF (fun k13 ((v11, h12) : Int32 × Mem) =>
       if 4 ≤ v11 then
        if v3 = 0 then
         some ((1 : Int32), h12)
        else
         (gI 5 h12 a0 5).bind fun v28 =>
         (pI 5 h12 a0 5 (-v28)).bind fun h29 =>
         some ((1 : Int32), h29)
       else
        if mKd h12 a0 = 5 then (fX5_isAtDigit a0 h12).bind (fun ((v16, h15) : Int32 × Mem) =>
         if v16 = 0 then
          if v3 = 0 then
           some ((1 : Int32), h15)
          else
           (gI 5 h15 a0 5).bind fun v24 =>
           (pI 5 h15 a0 5 (-v24)).bind fun h25 =>
           some ((1 : Int32), h25)
         else
          (gI 5 h15 a0 5).bind fun v17 =>
          if mKd h15 a0 = 5 then (fX5_next a0 h15).bind (fun ((v19, h18) : Int32 × Mem) =>
           (pI 5 h18 a0 5 (((v17 * 10) + v19) - 48)).bind fun h20 =>
           (gI 5 h20 a0 3).bind fun v21 =>
           (pI 5 h20 a0 3 (v21 + 1)).bind fun h22 =>
           nm (v11 + 1 : Int32) fun v23 =>
           k13 (v23, h22)) else none) else none) FU (0, h9)) else none) (fun k7 =>
    if v3 = 0 then
     k7 h1
    else
     (gI 5 h1 a0 3).bind fun v33 =>
     (pI 5 h1 a0 3 (v33 + 1)).bind fun h34 =>
     k7 h34)) (fun k4 =>
   if v2 = 45 then
    k4 1
   else
    k4 0)) else none
noncomputable def fX4_add (a0 : Nat) (a1 : Int32) (a2 : Int32) (a3 : Int32) (h0 : Mem) : Option (Int32 × Mem) :=
 (gI 4 h0 a0 0).bind fun v1 =>
 nm (v1 * 3 : Int32) fun v2 =>
 if v2 < 0 then
  some (((-4) : Int32), h0)
 else
  (gR 4 h0 a0 1).bind fun v3 =>
  (aLn h0 v3).bind fun v4 =>
  if (v2 + 2) < v4 then
   (gR 4 h0 a0 1).bind fun v5 =>
   (yI 11 h0 v5 v2 a1).bind fun h6 =>
   (gR 4 h6 a0 1).bind fun v7 =>
   (yI 11 h6 v7 (v2 + 1) a2).bind fun h8 =>
   (gR 4 h8 a0 1).bind fun v9 =>
   (yI 11 h8 v9 (v2 + 2) a3).bind fun h10 =>
   (gI 4 h10 a0 0).bind fun v11 =>
   (pI 4 h10 a0 0 (v11 + 1)).bind fun h12 =>
   (gI 4 h12 a0 0).bind fun v13 =>
   some ((v13 : Int32), h12)
  else
   some (((-4) : Int32), h0)
noncomputable def fX5_takeClause (a0 : Nat) (h0 : Mem) : Option (Int32 × Mem) :=
 if mKd h0 a0 = 5 then (fX5_next a0 h0).bind (fun ((v2, h1) : Int32 × Mem) =>
  (pI 5 h1 a0 4 0).bind fun h3 =>
  (pI 5 h3 a0 5 0).bind fun h4 =>
  (fX5_isKind v2 h4).bind (fun ((v6, h5) : Int32 × Mem) =>
   if v6 = 0 then
    some ((0 : Int32), h5)
   else
    (gI 5 h5 a0 3).bind fun v7 =>
    (pI 5 h5 a0 3 (v7 + 1)).bind fun h8 =>
    (fX5_hasDigit v2 h8).bind (fun ((v10, h9) : Int32 × Mem) =>
     jn (fun (h11 : Mem) =>
      (fX5_hasNumber v2 h11).bind (fun ((v15, h14) : Int32 × Mem) =>
       jn (fun (h16 : Mem) =>
        (gR 5 h16 a0 1).bind fun v19 =>
        (gI 5 h16 a0 4).bind fun v20 =>
        (gI 5 h16 a0 5).bind fun v21 =>
        if mKd h16 v19 = 4 then (fX4_add v19 v2 v20 v21 h16).bind (fun ((v23, h22) : Int32 × Mem) =>
         some ((1 : Int32), h22)) else none) (fun k17 =>
        if v15 = 0 then
         k17 h14
        else
         if mKd h14 a0 = 5 then (fX5_takeNumber a0 h14).bind (fun ((v25, h24) : Int32 × Mem) =>
          if v25 = 0 then
           some ((0 : Int32), h24)
          else
           k17 h24) else none))) (fun k12 =>
      if v10 = 0 then
       k12 h9
      else
       if mKd h9 a0 = 5 then (fX5_takeDigit a0 h9).bind (fun ((v29, h28) : Int32 × Mem) =>
        if v29 = 0 then
         some ((0 : Int32), h28)
        else
         k12 h28) else none)))) else none
noncomputable def fX5_findFault (a0 : Nat) (h0 : Mem) : Option (Int32 × Mem) :=
 (gR 5 h0 a0 1).bind fun v1 =>
 if mKd h0 v1 = 4 then (fX4_empty v1 h0).bind (fun ((v3, h2) : Int32 × Mem) =>
  (pI 5 h2 a0 3 0).bind fun h4 =>
  lpF (fun k7 ((v5, h6) : Int32 × Mem) =>
   if 12 ≤ v5 then
    (gI 5 h6 a0 3).bind fun v25 =>
    some ((v25 : Int32), h6)
   else
    if mKd h6 a0 = 5 then (fX5_takeClause a0 h6).bind (fun ((v10, h9) : Int32 × Mem) =>
     if v10 = 0 then
      (gI 5 h9 a0 3).bind fun v11 =>
      some ((v11 : Int32), h9)
     else
      if mKd h9 a0 = 5 then (fX5_next a0 h9).bind (fun ((v13, h12) : Int32 × Mem) =>
       if v13 = (-1) then
        some (((-1) : Int32), h12)
       else
        if mKd h12 a0 = 5 then (fX5_next a0 h12).bind (fun ((v15, h14) : Int32 × Mem) =>
         if v15 = 59 then
          if v5 = 11 then
           (gI 5 h14 a0 3).bind fun v16 =>
           some ((v16 : Int32), h14)
          else
           (gI 5 h14 a0 3).bind fun v17 =>
           (pI 5 h14 a0 3 (v17 + 1)).bind fun h18 =>
           nm (v5 + 1 : Int32) fun v19 =>
           k7 (v19, h18)
         else
          (gI 5 h14 a0 3).bind fun v21 =>
          some ((v21 : Int32), h14)) else none) else none) else none) FU (0, h4)) else none
noncomputable def fX4_cell (a0 : Nat) (a1 : Int32) (a2 : Int32) (h0 : Mem) : Option (Int32 × Mem) :=
 nm ((a1 * 3) + a2 : Int32) fun v1 =>
 if a1 < 0 then
  some ((0 : Int32), h0)
 else
  (gI 4 h0 a0 0).bind fun v2 =>
  if v2 ≤ a1 then
   some ((0 : Int32), h0)
  else
   (gR 4 h0 a0 1).bind fun v3 =>
   (aLn h0 v3).bind fun v4 =>
   if v4 ≤ v1 then
    some ((0 : Int32), h0)
   else
    (gR 4 h0 a0 1).bind fun v5 =>
    (xI 11 h0 v5 v1).bind fun v6 =>
    some ((v6 : Int32), h0)
noncomputable def fX4_second (a0 : Nat) (a1 : Int32) (h0 : Mem) : Option (Int32 × Mem) :=
 if mKd h0 a0 = 4 then (fX4_cell a0 a1 1 h0).bind (fun ((v2, h1) : Int32 × Mem) =>
  some ((v2 : Int32), h1)) else none
noncomputable def fX4_third (a0 : Nat) (a1 : Int32) (h0 : Mem) : Option (Int32 × Mem) :=
 if mKd h0 a0 = 4 then (fX4_cell a0 a1 2 h0).bind (fun ((v2, h1) : Int32 × Mem) =>
  some ((v2 : Int32), h1)) else none
noncomputable def fX4_first (a0 : Nat) (a1 : Int32) (h0 : Mem) : Option (Int32 × Mem) :=
 if mKd h0 a0 = 4 then (fX4_cell a0 a1 0 h0).bind (fun ((v2, h1) : Int32 × Mem) =>
  some ((v2 : Int32), h1)) else none
noncomputable def fX9_clauseAnswer (a0 : Nat) (a1 : Int32) (h0 : Mem) : Option (Int32 × Mem) :=
 (gR 9 h0 a0 7).bind fun v1 =>
 (gR 5 h0 v1 1).bind fun v2 =>
 if mKd h0 v2 = 4 then (fX4_second v2 a1 h0).bind (fun ((v4, h3) : Int32 × Mem) =>
  (gR 9 h3 a0 7).bind fun v5 =>
  (gR 5 h3 v5 1).bind fun v6 =>
  if mKd h3 v6 = 4 then (fX4_third v6 a1 h3).bind (fun ((v8, h7) : Int32 × Mem) =>
   (gR 9 h7 a0 7).bind fun v9 =>
   (gR 5 h7 v9 1).bind fun v10 =>
   if mKd h7 v10 = 4 then (fX4_first v10 a1 h7).bind (fun ((v12, h11) : Int32 × Mem) =>
    if v12 = 61 then
     if mKd h11 a0 = 9 then (fX9_equal a0 v8 h11).bind (fun ((v15, h14) : Int32 × Mem) =>
      some ((v15 : Int32), h14)) else none
    else if v12 = 97 then
     if mKd h11 a0 = 9 then (fX9_number a0 v4 v8 h11).bind (fun ((v18, h17) : Int32 × Mem) =>
      some ((v18 : Int32), h17)) else none
    else if v12 = 100 then
     if mKd h11 a0 = 9 then (fX9_degree a0 v4 h11).bind (fun ((v21, h20) : Int32 × Mem) =>
      some ((v21 : Int32), h20)) else none
    else if v12 = 116 then
     if mKd h11 a0 = 9 then (fX9_move a0 v4 h11).bind (fun ((v24, h23) : Int32 × Mem) =>
      some ((v24 : Int32), h23)) else none
    else if v12 = 119 then
     if mKd h11 a0 = 9 then (fX9_window a0 v8 h11).bind (fun ((v27, h26) : Int32 × Mem) =>
      some ((v27 : Int32), h26)) else none
    else 
     some (((-1) : Int32), h11)) else none) else none) else none
noncomputable def fX9_read (a0 : Nat) (h0 : Mem) : Option (Int32 × Mem) :=
 (gR 9 h0 a0 7).bind fun v1 =>
 if mKd h0 v1 = 5 then (fX5_findFault v1 h0).bind (fun ((v3, h2) : Int32 × Mem) =>
  (gR 9 h2 a0 7).bind fun v4 =>
  (pI 5 h2 v4 0 0).bind fun h5 =>
  if v3 = (-1) then
   lpF (fun k9 ((v6, v7, h8) : Int32 × Int32 × Mem) =>
    (gR 9 h8 a0 7).bind fun v11 =>
    (gR 5 h8 v11 1).bind fun v12 =>
    (gI 4 h8 v12 0).bind fun v13 =>
    if v13 ≤ v7 then
     some ((v6 : Int32), h8)
    else
     if mKd h8 a0 = 9 then (fX9_clauseAnswer a0 v7 h8).bind (fun ((v15, h14) : Int32 × Mem) =>
      if v15 < 0 then
       nm (v7 + 1 : Int32) fun v18 =>
       k9 (v6, v18, h14)
      else
       nm (v6 + 1 : Int32) fun v16 =>
       nm (v7 + 1 : Int32) fun v17 =>
       k9 (v16, v17, h14)) else none) FU (0, 0, h5)
  else
   some (((-10) - v3 : Int32), h5)) else none
noncomputable def fX9_of (a0 : Nat) (a1 : Int32) (h0 : Mem) : Option (Int32 × Mem) :=
 (gR 9 h0 a0 0).bind fun v1 =>
 (gR 6 h0 v1 0).bind fun v2 =>
 (gR 1 h0 v2 0).bind fun v3 =>
 if mKd h0 v3 = 2 then (fX2_has v3 a1 h0).bind (fun ((v5, h4) : Int32 × Mem) =>
  if v5 = 0 then
   some (((-1) : Int32), h4)
  else
   if mKd h4 v3 = 2 then (fX2_get v3 a1 h4).bind (fun ((v7, h6) : Int32 × Mem) =>
    some ((v7 + 100 : Int32), h6)) else none) else none
noncomputable def fX2_isLike (a0 : Nat) (a1 : Nat) (h0 : Mem) : Option (Int32 × Mem) :=
 lpF (fun k2 (v1 : Int32) =>
  (gR 2 h0 a0 1).bind fun v4 =>
  (aLn h0 v4).bind fun v5 =>
  if v5 ≤ v1 then
   (gI 2 h0 a0 0).bind fun v12 =>
   (gI 2 h0 a1 0).bind fun v13 =>
   if v12 = v13 then
    some ((1 : Int32), h0)
   else
    some ((0 : Int32), h0)
  else
   (gR 2 h0 a0 1).bind fun v6 =>
   (xI 11 h0 v6 v1).bind fun v7 =>
   (gR 2 h0 a1 1).bind fun v8 =>
   (xI 11 h0 v8 v1).bind fun v9 =>
   if v7 = v9 then
    nm (v1 + 1 : Int32) fun v10 =>
    k2 v10
   else
    some ((0 : Int32), h0)) FU 0
noncomputable def fX1_isLike (a0 : Nat) (a1 : Nat) (h0 : Mem) : Option (Int32 × Mem) :=
 (gI 1 h0 a0 1).bind fun v1 =>
 (gI 1 h0 a1 1).bind fun v2 =>
 if v1 = v2 then
  (gI 1 h0 a0 2).bind fun v3 =>
  (gI 1 h0 a1 2).bind fun v4 =>
  if v3 = v4 then
   (gR 1 h0 a0 0).bind fun v5 =>
   (gR 1 h0 a1 0).bind fun v6 =>
   if mKd h0 v5 = 2 then (fX2_isLike v5 v6 h0).bind (fun ((v8, h7) : Int32 × Mem) =>
    if v8 = 0 then
     some ((0 : Int32), h7)
    else
     some ((1 : Int32), h7)) else none
  else
   some ((0 : Int32), h0)
 else
  some ((0 : Int32), h0)
noncomputable def fX2_copy (a0 : Nat) (a1 : Nat) (h0 : Mem) : Option (Unit × Mem) :=
 (gI 2 h0 a1 0).bind fun v1 =>
 (pI 2 h0 a0 0 v1).bind fun h2 =>
 (gR 2 h2 a1 1).bind fun v3 =>
 (gR 2 h2 a0 1).bind fun v4 =>
 (gR 2 h2 a0 1).bind fun v5 =>
 (aLn h2 v5).bind fun v6 =>
 (cpI h2 v3 0 v4 0 v6).bind fun h7 =>
 some ((), h7)
noncomputable def fX1_copy (a0 : Nat) (a1 : Nat) (h0 : Mem) : Option (Unit × Mem) :=
 (gR 1 h0 a0 0).bind fun v1 =>
 (gR 1 h0 a1 0).bind fun v2 =>
 if mKd h0 v1 = 2 then (fX2_copy v1 v2 h0).bind (fun ((_u, h3) : Unit × Mem) =>
  (gI 1 h3 a1 1).bind fun v4 =>
  (pI 1 h3 a0 1 v4).bind fun h5 =>
  (gI 1 h5 a1 2).bind fun v6 =>
  (pI 1 h5 a0 2 v6).bind fun h7 =>
  some ((), h7)) else none
noncomputable def fX1_hasInWindow (a0 : Nat) (a1 : Int64) (a3 : Int64) (h0 : Mem) : Option (Int32 × Mem) :=
 (gI 1 h0 a0 2).bind fun v1 =>
 if (lg_cmp a1 ((-v1).toInt64)) < 0 then
  some ((0 : Int32), h0)
 else
  (gI 1 h0 a0 2).bind fun v2 =>
  if 0 < (lg_cmp a1 v2.toInt64) then
   some ((0 : Int32), h0)
  else
   (gI 1 h0 a0 2).bind fun v3 =>
   if (lg_cmp a3 ((-v3).toInt64)) < 0 then
    some ((0 : Int32), h0)
   else
    (gI 1 h0 a0 2).bind fun v4 =>
    if 0 < (lg_cmp a3 v4.toInt64) then
     some ((0 : Int32), h0)
    else
     some ((1 : Int32), h0)
noncomputable def fX2_at (a0 : Nat) (a1 : Int64) (a3 : Int64) (h0 : Mem) : Option (Int64 × Mem) :=
 (gR 2 h0 a0 1).bind fun v1 =>
 (xI 11 h0 v1 0).bind fun v2 =>
 nm (v2.toInt64 : Int64) fun v3 =>
 lpF (fun k7 ((v4, v5, v6) : Int64 × Int64 × Int32) =>
  (gI 2 h0 a0 0).bind fun v9 =>
  if v9 < v6 then
   some ((v4 : Int64), h0)
  else
   (gR 2 h0 a0 1).bind fun v10 =>
   (aLn h0 v10).bind fun v11 =>
   if v11 ≤ v6 then
    some ((v4 : Int64), h0)
   else
    nm (v5 * a3 : Int64) fun v12 =>
    (gR 2 h0 a0 1).bind fun v13 =>
    (xI 11 h0 v13 v6).bind fun v14 =>
    nm ((v4 * a1) + (v14.toInt64 * v12) : Int64) fun v15 =>
    nm (v6 + 1 : Int32) fun v16 =>
    k7 (v15, v12, v16)) FU (v3, 1, 1)
noncomputable def fX1_isAnswer (a0 : Nat) (a1 : Int64) (a3 : Int64) (h0 : Mem) : Option (Int32 × Mem) :=
 if mKd h0 a0 = 1 then (fX1_hasInWindow a0 a1 a3 h0).bind (fun ((v2, h1) : Int32 × Mem) =>
  if v2 = 0 then
   some ((0 : Int32), h1)
  else
   (gR 1 h1 a0 0).bind fun v3 =>
   if mKd h1 v3 = 2 then (fX2_at v3 a1 a3 h1).bind (fun ((v5, h4) : Int64 × Mem) =>
    (gI 1 h4 a0 1).bind fun v6 =>
    if (lg_cmp v5 v6.toInt64) = 0 then
     some ((1 : Int32), h4)
    else
     some ((0 : Int32), h4)) else none) else none
noncomputable def fX0_cellAt (a0 : Nat) (a1 : Int32) (a2 : Int32) (h0 : Mem) : Option (Int32 × Mem) :=
 (gR 0 h0 a0 4).bind fun v1 =>
 if mKd h0 v1 = 1 then (fX1_hasInWindow v1 a1.toInt64 a2.toInt64 h0).bind (fun ((v3, h2) : Int32 × Mem) =>
  if v3 = 0 then
   some (((-1) : Int32), h2)
  else
   some (((((a1 + 40) * 81) + a2) + 40 : Int32), h2)) else none
noncomputable def fX0_setLabel (a0 : Nat) (a1 : Int32) (a2 : Int32) (h0 : Mem) : Option (Unit × Mem) :=
 if a1 < 0 then
  some ((), h0)
 else
  (gR 0 h0 a0 5).bind fun v1 =>
  (aLn h0 v1).bind fun v2 =>
  if v2 ≤ a1 then
   some ((), h0)
  else
   (gR 0 h0 a0 5).bind fun v3 =>
   (yI 11 h0 v3 a1 a2).bind fun h4 =>
   some ((), h4)
noncomputable def fX0_look (a0 : Nat) (a1 : Nat) (h0 : Mem) : Option (Unit × Mem) :=
 (gI 0 h0 a0 2).bind fun v1 =>
 jn (fun (h2 : Mem) =>
  (pI 0 h2 a0 2 1).bind fun h5 =>
  (gR 0 h5 a0 4).bind fun v6 =>
  if mKd h5 v6 = 1 then (fX1_copy v6 a1 h5).bind (fun ((_u, h7) : Unit × Mem) =>
   (pI 0 h7 a0 0 0).bind fun h8 =>
   (pI 0 h8 a0 1 0).bind fun h9 =>
   (pI 0 h9 a0 3 0).bind fun h10 =>
   (gR 0 h10 a0 5).bind fun v11 =>
   (fJ7_fill_53178 v11 (-1) h10).bind (fun ((_u, h12) : Unit × Mem) =>
    (gR 0 h12 a0 4).bind fun v13 =>
    (gI 1 h12 v13 2).bind fun v14 =>
    nm (-v14 : Int32) fun v15 =>
    lpF (fun k18 ((v16, h17) : Int32 × Mem) =>
     (gR 0 h17 a0 4).bind fun v20 =>
     (gI 1 h17 v20 2).bind fun v21 =>
     if v21 < v16 then
      some ((), h17)
     else
      (gR 0 h17 a0 4).bind fun v22 =>
      (gI 1 h17 v22 2).bind fun v23 =>
      nm (-v23 : Int32) fun v24 =>
      lpF (fun k27 ((v25, h26) : Int32 × Mem) =>
       (gR 0 h26 a0 4).bind fun v29 =>
       (gI 1 h26 v29 2).bind fun v30 =>
       if v30 < v25 then
        nm (v16 + 1 : Int32) fun v42 =>
        k18 (v42, h26)
       else
        (gR 0 h26 a0 4).bind fun v31 =>
        if mKd h26 v31 = 1 then (fX1_isAnswer v31 v16.toInt64 v25.toInt64 h26).bind (fun ((v33, h32) : Int32 × Mem) =>
         if v33 = 0 then
          nm (v25 + 1 : Int32) fun v40 =>
          k27 (v40, h32)
         else
          if mKd h32 a0 = 0 then (fX0_cellAt a0 v16 v25 h32).bind (fun ((v35, h34) : Int32 × Mem) =>
           if mKd h34 a0 = 0 then (fX0_setLabel a0 v35 (-2) h34).bind (fun ((_u, h36) : Unit × Mem) =>
            (gI 0 h36 a0 0).bind fun v37 =>
            (pI 0 h36 a0 0 (v37 + 1)).bind fun h38 =>
            nm (v25 + 1 : Int32) fun v39 =>
            k27 (v39, h38)) else none) else none) else none) FU (v24, h17)) FU (v15, h12))) else none) (fun k3 =>
  if v1 = 0 then
   k3 h0
  else
   (gR 0 h0 a0 4).bind fun v45 =>
   if mKd h0 v45 = 1 then (fX1_isLike v45 a1 h0).bind (fun ((v47, h46) : Int32 × Mem) =>
    if v47 = 0 then
     k3 h46
    else
     some ((), h46)) else none)
noncomputable def fX9_answersNow (a0 : Nat) (h0 : Mem) : Option (Nat × Mem) :=
 (gR 9 h0 a0 4).bind fun v1 =>
 (gR 9 h0 a0 0).bind fun v2 =>
 (gR 6 h0 v2 0).bind fun v3 =>
 if mKd h0 v1 = 0 then (fX0_look v1 v3 h0).bind (fun ((_u, h4) : Unit × Mem) =>
  (gR 9 h4 a0 4).bind fun v5 =>
  some (v5, h4)) else none
noncomputable def fX2_isLeftBy (a0 : Nat) (a1 : Int32) (a2 : Int32) (a3 : Int32) (a4 : Int32) (h0 : Mem) : Option (Int32 × Mem) :=
 if mKd h0 a0 = 2 then (fX2_findTurned a0 a1 a2 a3 a4 h0).bind (fun ((_u, h1) : Unit × Mem) =>
  lpF (fun k3 (v2 : Int32) =>
   (gR 2 h1 a0 2).bind fun v5 =>
   (aLn h1 v5).bind fun v6 =>
   if v6 ≤ v2 then
    some ((1 : Int32), h1)
   else
    (gR 2 h1 a0 1).bind fun v7 =>
    (aLn h1 v7).bind fun v8 =>
    if v8 ≤ v2 then
     some ((1 : Int32), h1)
    else
     (gR 2 h1 a0 2).bind fun v9 =>
     (xJ h1 v9 v2).bind fun v10 =>
     (gR 2 h1 a0 1).bind fun v11 =>
     (xI 11 h1 v11 v2).bind fun v12 =>
     if (lg_cmp v10 v12.toInt64) = 0 then
      nm (v2 + 1 : Int32) fun v13 =>
      k3 v13
     else
      some ((0 : Int32), h1)) FU 0) else none
noncomputable def fX8_add (a0 : Nat) (a1 : Int32) (a2 : Int32) (a3 : Int32) (a4 : Int32) (h0 : Mem) : Option (Unit × Mem) :=
 (gI 8 h0 a0 0).bind fun v1 =>
 nm (v1 * 4 : Int32) fun v2 =>
 if v2 < 0 then
  some ((), h0)
 else
  (gR 8 h0 a0 1).bind fun v3 =>
  (aLn h0 v3).bind fun v4 =>
  if (v2 + 3) < v4 then
   (gR 8 h0 a0 1).bind fun v5 =>
   (yI 11 h0 v5 v2 a1).bind fun h6 =>
   (gR 8 h6 a0 1).bind fun v7 =>
   (yI 11 h6 v7 (v2 + 1) a2).bind fun h8 =>
   (gR 8 h8 a0 1).bind fun v9 =>
   (yI 11 h8 v9 (v2 + 2) a3).bind fun h10 =>
   (gR 8 h10 a0 1).bind fun v11 =>
   (yI 11 h10 v11 (v2 + 3) a4).bind fun h12 =>
   (gI 8 h12 a0 0).bind fun v13 =>
   (pI 8 h12 a0 0 (v13 + 1)).bind fun h14 =>
   some ((), h14)
  else
   some ((), h0)
noncomputable def fX8_look (a0 : Nat) (a1 : Nat) (h0 : Mem) : Option (Unit × Mem) :=
 (pI 8 h0 a0 0 0).bind fun h1 =>
 lpF (fun k4 ((v2, h3) : Int32 × Mem) =>
  if 2 < v2 then
   some ((), h3)
  else
   lpF (fun k8 ((v6, h7) : Int32 × Mem) =>
    if 2 < v6 then
     nm (v2 + 1 : Int32) fun v34 =>
     k4 (v34, h7)
    else
     lpF (fun k12 ((v10, h11) : Int32 × Mem) =>
      if 2 < v10 then
       nm (v6 + 1 : Int32) fun v32 =>
       k8 (v32, h11)
      else
       lpF (fun k16 ((v14, h15) : Int32 × Mem) =>
        if 2 < v14 then
         nm (v10 + 1 : Int32) fun v30 =>
         k12 (v30, h15)
        else
         nm ((v2 * v14) - (v6 * v10) : Int32) fun v18 =>
         jn (fun (_ : Unit) =>
          if mKd h15 a1 = 2 then (fX2_isLeftBy a1 v2 v6 v10 v14 h15).bind (fun ((v22, h21) : Int32 × Mem) =>
           if v22 = 0 then
            nm (v14 + 1 : Int32) fun v25 =>
            k16 (v25, h21)
           else
            if mKd h21 a0 = 8 then (fX8_add a0 v2 v6 v10 v14 h21).bind (fun ((_u, h23) : Unit × Mem) =>
             nm (v14 + 1 : Int32) fun v24 =>
             k16 (v24, h23)) else none) else none) (fun k19 =>
          if v18 = 1 then
           k19 ()
          else
           if v18 = (-1) then
            k19 ()
           else
            nm (v14 + 1 : Int32) fun v27 =>
            k16 (v27, h15))) FU ((-2), h11)) FU ((-2), h7)) FU ((-2), h3)) FU ((-2), h1)
noncomputable def fX9_unitsNow (a0 : Nat) (h0 : Mem) : Option (Nat × Mem) :=
 (gR 9 h0 a0 5).bind fun v1 =>
 (gR 9 h0 a0 0).bind fun v2 =>
 (gR 6 h0 v2 0).bind fun v3 =>
 (gR 1 h0 v3 0).bind fun v4 =>
 if mKd h0 v1 = 8 then (fX8_look v1 v4 h0).bind (fun ((_u, h5) : Unit × Mem) =>
  (gR 9 h5 a0 5).bind fun v6 =>
  some (v6, h5)) else none
noncomputable def fX0_labelAt (a0 : Nat) (a1 : Int32) (h0 : Mem) : Option (Int32 × Mem) :=
 if a1 < 0 then
  some (((-1) : Int32), h0)
 else
  (gR 0 h0 a0 5).bind fun v1 =>
  (aLn h0 v1).bind fun v2 =>
  if v2 ≤ a1 then
   some (((-1) : Int32), h0)
  else
   (gR 0 h0 a0 5).bind fun v3 =>
   (xI 11 h0 v3 a1).bind fun v4 =>
   some ((v4 : Int32), h0)
noncomputable def fX0_await (a0 : Nat) (a1 : Int32) (a2 : Int32) (h0 : Mem) : Option (Int32 × Mem) :=
 if mKd h0 a0 = 0 then (fX0_labelAt a0 a1 h0).bind (fun ((v2, h1) : Int32 × Mem) =>
  if v2 = (-2) then
   if mKd h1 a0 = 0 then (fX0_setLabel a0 a1 ((-4) - a2) h1).bind (fun ((_u, h3) : Unit × Mem) =>
    some ((a1 : Int32), h3)) else none
  else
   some ((a2 : Int32), h1)) else none
noncomputable def fX0_behind (a0 : Nat) (a1 : Int32) (h0 : Mem) : Option (Int32 × Mem) :=
 if mKd h0 a0 = 0 then (fX0_labelAt a0 a1 h0).bind (fun ((v2, h1) : Int32 × Mem) =>
  if (-3) ≤ v2 then
   some (((-1) : Int32), h1)
  else
   some (((-4) - v2 : Int32), h1)) else none
noncomputable def fX8_get (a0 : Nat) (a1 : Int32) (a2 : Int32) (h0 : Mem) : Option (Int32 × Mem) :=
 nm ((a1 * 4) + a2 : Int32) fun v1 =>
 if a1 < 0 then
  some ((0 : Int32), h0)
 else
  (gI 8 h0 a0 0).bind fun v2 =>
  if v2 ≤ a1 then
   some ((0 : Int32), h0)
  else
   if a2 < 0 then
    some ((0 : Int32), h0)
   else
    if 4 ≤ a2 then
     some ((0 : Int32), h0)
    else
     (gR 8 h0 a0 1).bind fun v3 =>
     (aLn h0 v3).bind fun v4 =>
     if v4 ≤ v1 then
      some ((0 : Int32), h0)
     else
      (gR 8 h0 a0 1).bind fun v5 =>
      (xI 11 h0 v5 v1).bind fun v6 =>
      some ((v6 : Int32), h0)
noncomputable def fX0_xOf (a0 : Int32) (h0 : Mem) : Option (Int32 × Mem) :=
 if (81 : Int32) = 0 then none else
 some (((a0 / 81) - 40 : Int32), h0)
noncomputable def fX0_yOf (a0 : Int32) (h0 : Mem) : Option (Int32 × Mem) :=
 if (81 : Int32) = 0 then none else
 some (((a0 - a0 / 81 * 81) - 40 : Int32), h0)
noncomputable def fX0_spread (a0 : Nat) (a1 : Int32) (a2 : Nat) (h0 : Mem) : Option (Unit × Mem) :=
 if mKd h0 a0 = 0 then (fX0_await a0 a1 (-1) h0).bind (fun ((v2, h1) : Int32 × Mem) =>
  lpF (fun k6 ((v3, v4, h5) : Int32 × Int32 × Mem) =>
   (gR 0 h5 a0 5).bind fun v8 =>
   (aLn h5 v8).bind fun v9 =>
   if v9 ≤ v4 then
    some ((), h5)
   else
    if v3 = (-1) then
     some ((), h5)
    else
     if mKd h5 a0 = 0 then (fX0_behind a0 v3 h5).bind (fun ((v11, h10) : Int32 × Mem) =>
      (gI 0 h10 a0 1).bind fun v12 =>
      if mKd h10 a0 = 0 then (fX0_setLabel a0 v3 v12 h10).bind (fun ((_u, h13) : Unit × Mem) =>
       lpF (fun k17 ((v14, v15, h16) : Int32 × Int32 × Mem) =>
        (gI 8 h16 a2 0).bind fun v19 =>
        if v19 ≤ v15 then
         nm (v4 + 1 : Int32) fun v43 =>
         k6 (v14, v43, h16)
        else
         if mKd h16 a2 = 8 then (fX8_get a2 v15 0 h16).bind (fun ((v21, h20) : Int32 × Mem) =>
          (fX0_xOf v3 h20).bind (fun ((v23, h22) : Int32 × Mem) =>
           if mKd h22 a2 = 8 then (fX8_get a2 v15 1 h22).bind (fun ((v25, h24) : Int32 × Mem) =>
            (fX0_yOf v3 h24).bind (fun ((v27, h26) : Int32 × Mem) =>
             nm ((v21 * v23) + (v25 * v27) : Int32) fun v28 =>
             if mKd h26 a2 = 8 then (fX8_get a2 v15 2 h26).bind (fun ((v30, h29) : Int32 × Mem) =>
              (fX0_xOf v3 h29).bind (fun ((v32, h31) : Int32 × Mem) =>
               if mKd h31 a2 = 8 then (fX8_get a2 v15 3 h31).bind (fun ((v34, h33) : Int32 × Mem) =>
                (fX0_yOf v3 h33).bind (fun ((v36, h35) : Int32 × Mem) =>
                 nm ((v30 * v32) + (v34 * v36) : Int32) fun v37 =>
                 if mKd h35 a0 = 0 then (fX0_cellAt a0 v28 v37 h35).bind (fun ((v39, h38) : Int32 × Mem) =>
                  if mKd h38 a0 = 0 then (fX0_await a0 v39 v14 h38).bind (fun ((v41, h40) : Int32 × Mem) =>
                   nm (v15 + 1 : Int32) fun v42 =>
                   k17 (v41, v42, h40)) else none) else none)) else none)) else none)) else none)) else none) FU (v11, 0, h13)) else none) else none) FU (v2, 0, h1)) else none
noncomputable def fX0_findFamilies (a0 : Nat) (a1 : Nat) (h0 : Mem) : Option (Unit × Mem) :=
 (gI 0 h0 a0 3).bind fun v1 =>
 if v1 = 0 then
  (pI 0 h0 a0 3 1).bind fun h2 =>
  (gR 0 h2 a0 4).bind fun v3 =>
  (gR 1 h2 v3 0).bind fun v4 =>
  if mKd h2 a1 = 8 then (fX8_look a1 v4 h2).bind (fun ((_u, h5) : Unit × Mem) =>
   lpF (fun k8 ((v6, h7) : Int32 × Mem) =>
    (gR 0 h7 a0 5).bind fun v10 =>
    (aLn h7 v10).bind fun v11 =>
    if v11 ≤ v6 then
     some ((), h7)
    else
     (gR 0 h7 a0 5).bind fun v12 =>
     (xI 11 h7 v12 v6).bind fun v13 =>
     if v13 = (-2) then
      if mKd h7 a0 = 0 then (fX0_spread a0 v6 a1 h7).bind (fun ((_u, h14) : Unit × Mem) =>
       (gI 0 h14 a0 1).bind fun v15 =>
       (pI 0 h14 a0 1 (v15 + 1)).bind fun h16 =>
       nm (v6 + 1 : Int32) fun v17 =>
       k8 (v17, h16)) else none
     else
      nm (v6 + 1 : Int32) fun v18 =>
      k8 (v18, h7)) FU (0, h5)) else none
 else
  some ((), h0)
noncomputable def fX9_answersInFamilies (a0 : Nat) (h0 : Mem) : Option (Nat × Mem) :=
 (gR 9 h0 a0 4).bind fun v1 =>
 (gR 9 h0 a0 0).bind fun v2 =>
 (gR 6 h0 v2 0).bind fun v3 =>
 if mKd h0 v1 = 0 then (fX0_look v1 v3 h0).bind (fun ((_u, h4) : Unit × Mem) =>
  (gR 9 h4 a0 4).bind fun v5 =>
  (gR 9 h4 a0 5).bind fun v6 =>
  if mKd h4 v5 = 0 then (fX0_findFamilies v5 v6 h4).bind (fun ((_u, h7) : Unit × Mem) =>
   (gR 9 h7 a0 4).bind fun v8 =>
   some (v8, h7)) else none) else none
noncomputable def fX3_at (a0 : Nat) (a1 : Int32) (h0 : Mem) : Option (Int64 × Mem) :=
 lpF (fun k3 ((v1, v2) : Int64 × Int32) =>
  (gI 3 h0 a0 1).bind fun v5 =>
  if v5 < v2 then
   some ((v1 : Int64), h0)
  else
   (gR 3 h0 a0 2).bind fun v6 =>
   (aLn h0 v6).bind fun v7 =>
   if v7 ≤ v2 then
    some ((v1 : Int64), h0)
   else
    (gR 3 h0 a0 2).bind fun v8 =>
    (xJ h0 v8 v2).bind fun v9 =>
    nm ((v1 * a1.toInt64) + v9 : Int64) fun v10 =>
    nm (v2 + 1 : Int32) fun v11 =>
    k3 (v10, v11)) FU (0, 0)
noncomputable def fX3_greatestFrom (a0 : Nat) (a1 : Int32) (h0 : Mem) : Option (Int32 × Mem) :=
 if mKd h0 a0 = 3 then (fX3_at a0 100 h0).bind (fun ((v2, h1) : Int64 × Mem) =>
  lpF (fun k6 ((v3, v4, h5) : Int64 × Int32 × Mem) =>
   if v4 < a1 then
    some (((-1) : Int32), h5)
   else
    if mKd h5 a0 = 3 then (fX3_at a0 v4 h5).bind (fun ((v9, h8) : Int64 × Mem) =>
     if (lg_cmp v9 0) = 0 then
      some ((v4 : Int32), h8)
     else
      jn (fun (_ : Unit) =>
       if 0 ≤ (lg_cmp v9 0) then
        nm (v4 + (-1) : Int32) fun v14 =>
        k6 (v9, v14, h8)
       else
        if (lg_cmp v3 0) ≤ 0 then
         nm (v4 + (-1) : Int32) fun v12 =>
         k6 (v9, v12, h8)
        else
         some ((v4 : Int32), h8)) (fun k10 =>
       if (lg_cmp v9 0) ≤ 0 then
        k10 ()
       else
        if (lg_cmp v3 0) < 0 then
         some ((v4 : Int32), h8)
        else
         k10 ())) else none) FU (v2, 99, h1)) else none
noncomputable def fX3_keep (a0 : Nat) (a1 : Int32) (h0 : Mem) : Option (Unit × Mem) :=
 (gI 3 h0 a0 0).bind fun v1 =>
 if v1 < 0 then
  some ((), h0)
 else
  (gI 3 h0 a0 0).bind fun v2 =>
  if v2 < 8 then
   (gI 3 h0 a0 0).bind fun v3 =>
   jn (fun (v4 : Int64) =>
    (gI 3 h0 a0 0).bind fun v7 =>
    jn (fun (v8 : Int64) =>
     (gI 3 h0 a0 0).bind fun v11 =>
     jn (fun (v12 : Int64) =>
      (gI 3 h0 a0 0).bind fun v15 =>
      jn (fun (v16 : Int64) =>
       (gR 3 h0 a0 3).bind fun v19 =>
       (gI 3 h0 a0 0).bind fun v20 =>
       (yI 11 h0 v19 v20 a1).bind fun h21 =>
       (gR 3 h21 a0 4).bind fun v22 =>
       (gI 3 h21 a0 0).bind fun v23 =>
       (yJ h21 v22 v23 ((a1.toInt64 * v4) + v12)).bind fun h24 =>
       (gR 3 h24 a0 5).bind fun v25 =>
       (gI 3 h24 a0 0).bind fun v26 =>
       (yJ h24 v25 v26 ((a1.toInt64 * v8) + v16)).bind fun h27 =>
       (gI 3 h27 a0 0).bind fun v28 =>
       (pI 3 h27 a0 0 (v28 + 1)).bind fun h29 =>
       some ((), h29)) (fun k17 =>
       if v15 ≤ 1 then
        (gI 3 h0 a0 0).bind fun v33 =>
        k17 ((1 - v33).toInt64)
       else
        (gR 3 h0 a0 5).bind fun v30 =>
        (gI 3 h0 a0 0).bind fun v31 =>
        (xJ h0 v30 (v31 - 2)).bind fun v32 =>
        k17 v32)) (fun k13 =>
      if v11 ≤ 1 then
       (gI 3 h0 a0 0).bind fun v38 =>
       k13 v38.toInt64
      else
       (gR 3 h0 a0 4).bind fun v35 =>
       (gI 3 h0 a0 0).bind fun v36 =>
       (xJ h0 v35 (v36 - 2)).bind fun v37 =>
       k13 v37)) (fun k9 =>
     if v7 ≤ 0 then
      k9 0
     else
      (gR 3 h0 a0 5).bind fun v40 =>
      (gI 3 h0 a0 0).bind fun v41 =>
      (xJ h0 v40 (v41 - 1)).bind fun v42 =>
      k9 v42)) (fun k5 =>
    if v3 ≤ 0 then
     k5 1
    else
     (gR 3 h0 a0 4).bind fun v44 =>
     (gI 3 h0 a0 0).bind fun v45 =>
     (xJ h0 v44 (v45 - 1)).bind fun v46 =>
     k5 v46)
  else
   some ((), h0)
noncomputable def fX3_goBehind (a0 : Nat) (a1 : Int32) (h0 : Mem) : Option (Unit × Mem) :=
 (gI 3 h0 a0 1).bind fun v1 =>
 lpF (fun k4 ((v2, h3) : Int32 × Mem) =>
  if v2 ≤ 0 then
   (gI 3 h3 a0 1).bind fun v22 =>
   lpF (fun k26 ((v23, v24, h25) : Int32 × Int32 × Mem) =>
    if v24 ≤ v23 then
     some ((), h25)
    else
     (gR 3 h25 a0 2).bind fun v28 =>
     (aLn h25 v28).bind fun v29 =>
     if v29 ≤ v24 then
      some ((), h25)
     else
      (gR 3 h25 a0 2).bind fun v30 =>
      (xJ h25 v30 v23).bind fun v31 =>
      (gR 3 h25 a0 2).bind fun v32 =>
      (gR 3 h25 a0 2).bind fun v33 =>
      (xJ h25 v33 v24).bind fun v34 =>
      (yJ h25 v32 v23 v34).bind fun h35 =>
      (gR 3 h35 a0 2).bind fun v36 =>
      (yJ h35 v36 v24 v31).bind fun h37 =>
      nm (v23 + 1 : Int32) fun v38 =>
      nm (v24 + (-1) : Int32) fun v39 =>
      k26 (v38, v39, h37)) FU (0, v22, h3)
  else
   lpF (fun k8 ((v6, h7) : Int32 × Mem) =>
    if v2 < v6 then
     nm (v2 + (-1) : Int32) fun v20 =>
     k4 (v20, h7)
    else
     (gR 3 h7 a0 2).bind fun v10 =>
     (aLn h7 v10).bind fun v11 =>
     if v11 ≤ v6 then
      nm (v2 + (-1) : Int32) fun v18 =>
      k4 (v18, h7)
     else
      (gR 3 h7 a0 2).bind fun v12 =>
      (xJ h7 v12 v6).bind fun v13 =>
      (gR 3 h7 a0 2).bind fun v14 =>
      (xJ h7 v14 (v6 - 1)).bind fun v15 =>
      (yJ h7 v12 v6 (v13 + (a1.toInt64 * v15))).bind fun h16 =>
      nm (v6 + 1 : Int32) fun v17 =>
      k8 (v17, h16)) FU (1, h3)) FU (v1, h0)
noncomputable def fX3_isRowBeyond (a0 : Nat) (h0 : Mem) : Option (Int32 × Mem) :=
 lpF (fun k2 (v1 : Int32) =>
  (gR 3 h0 a0 2).bind fun v4 =>
  (aLn h0 v4).bind fun v5 =>
  if v5 ≤ v1 then
   some ((0 : Int32), h0)
  else
   (gR 3 h0 a0 2).bind fun v6 =>
   (xJ h0 v6 v1).bind fun v7 =>
   if 0 < (lg_cmp v7 1000000000) then
    some ((1 : Int32), h0)
   else
    (gR 3 h0 a0 2).bind fun v8 =>
    (xJ h0 v8 v1).bind fun v9 =>
    if 0 ≤ (lg_cmp v9 (-1000000000)) then
     nm (v1 + 1 : Int32) fun v10 =>
     k2 v10
    else
     some ((1 : Int32), h0)) FU 0
noncomputable def fX3_look (a0 : Nat) (a1 : Nat) (h0 : Mem) : Option (Unit × Mem) :=
 (pI 3 h0 a0 0 0).bind fun h1 =>
 (gI 2 h1 a1 0).bind fun v2 =>
 (pI 3 h1 a0 1 v2).bind fun h3 =>
 lpF (fun k6 ((v4, h5) : Int32 × Mem) =>
  (gR 3 h5 a0 2).bind fun v8 =>
  (aLn h5 v8).bind fun v9 =>
  if v9 ≤ v4 then
   lpF (fun k17 ((v15, h16) : Int32 × Mem) =>
    if 8 ≤ v15 then
     some ((), h16)
    else
     jn (fun (v19 : Int32) =>
      if mKd h16 a0 = 3 then (fX3_greatestFrom a0 v19 h16).bind (fun ((v23, h22) : Int32 × Mem) =>
       if 0 ≤ v23 then
        if mKd h22 a0 = 3 then (fX3_keep a0 v23 h22).bind (fun ((_u, h24) : Unit × Mem) =>
         if mKd h24 a0 = 3 then (fX3_at a0 v23 h24).bind (fun ((v26, h25) : Int64 × Mem) =>
          if (lg_cmp v26 0) = 0 then
           some ((), h25)
          else
           if mKd h25 a0 = 3 then (fX3_goBehind a0 v23 h25).bind (fun ((_u, h27) : Unit × Mem) =>
            if mKd h27 a0 = 3 then (fX3_isRowBeyond a0 h27).bind (fun ((v29, h28) : Int32 × Mem) =>
             if v29 = 0 then
              nm (v15 + 1 : Int32) fun v30 =>
              k17 (v30, h28)
             else
              some ((), h28)) else none) else none) else none) else none
       else
        some ((), h22)) else none) (fun k20 =>
      if v15 = 0 then
       k20 0
      else
       k20 1)) FU (0, h5)
  else
   (gR 3 h5 a0 2).bind fun v10 =>
   if mKd h5 a1 = 2 then (fX2_get a1 v4 h5).bind (fun ((v12, h11) : Int32 × Mem) =>
    (yJ h11 v10 v4 v12.toInt64).bind fun h13 =>
    nm (v4 + 1 : Int32) fun v14 =>
    k6 (v14, h13)) else none) FU (0, h3)
noncomputable def fX9_partsNow (a0 : Nat) (h0 : Mem) : Option (Nat × Mem) :=
 (gR 9 h0 a0 6).bind fun v1 =>
 (gR 9 h0 a0 0).bind fun v2 =>
 (gR 6 h0 v2 0).bind fun v3 =>
 (gR 1 h0 v3 0).bind fun v4 =>
 if mKd h0 v1 = 3 then (fX3_look v1 v4 h0).bind (fun ((_u, h5) : Unit × Mem) =>
  (gR 9 h5 a0 6).bind fun v6 =>
  some (v6, h5)) else none
noncomputable def fX3_above (a0 : Nat) (a1 : Int32) (h0 : Mem) : Option (Int64 × Mem) :=
 if a1 < 0 then
  some ((0 : Int64), h0)
 else
  (gI 3 h0 a0 0).bind fun v1 =>
  if v1 ≤ a1 then
   some ((0 : Int64), h0)
  else
   if 8 ≤ a1 then
    some ((0 : Int64), h0)
   else
    (gR 3 h0 a0 4).bind fun v2 =>
    (xJ h0 v2 a1).bind fun v3 =>
    some ((v3 : Int64), h0)
noncomputable def fX3_below (a0 : Nat) (a1 : Int32) (h0 : Mem) : Option (Int64 × Mem) :=
 if a1 < 0 then
  some ((0 : Int64), h0)
 else
  (gI 3 h0 a0 0).bind fun v1 =>
  if v1 ≤ a1 then
   some ((0 : Int64), h0)
  else
   if 8 ≤ a1 then
    some ((0 : Int64), h0)
   else
    (gR 3 h0 a0 5).bind fun v2 =>
    (xJ h0 v2 a1).bind fun v3 =>
    some ((v3 : Int64), h0)
noncomputable def fX9_convergentAnswers (a0 : Nat) (h0 : Mem) : Option (Int32 × Mem) :=
 if mKd h0 a0 = 9 then (fX9_partsNow a0 h0).bind (fun ((v2, h1) : Nat × Mem) => if v2 = 0 then
  none
  else
  lpF (fun k6 ((v3, v4, h5) : Int32 × Int32 × Mem) =>
   (gI 3 h5 v2 0).bind fun v8 =>
   if v8 ≤ v4 then
    some ((v3 : Int32), h5)
   else
    (gR 9 h5 a0 0).bind fun v9 =>
    (gR 6 h5 v9 0).bind fun v10 =>
    if mKd h5 v2 = 3 then (fX3_above v2 v4 h5).bind (fun ((v12, h11) : Int64 × Mem) =>
     if mKd h11 v2 = 3 then (fX3_below v2 v4 h11).bind (fun ((v14, h13) : Int64 × Mem) =>
      if mKd h13 v10 = 1 then (fX1_isAnswer v10 v12 v14 h13).bind (fun ((v16, h15) : Int32 × Mem) =>
       if v16 = 0 then
        nm (v4 + 1 : Int32) fun v19 =>
        k6 (v3, v19, h15)
       else
        nm (v3 + 1 : Int32) fun v17 =>
        nm (v4 + 1 : Int32) fun v18 =>
        k6 (v17, v18, h15)) else none) else none) else none) FU (0, 0, h1)) else none
noncomputable def fX9_told (a0 : Nat) (a1 : Int32) (h0 : Mem) : Option (Int32 × Mem) :=
 if a1 = 0 then
  (gR 9 h0 a0 0).bind fun v2 =>
  (gR 6 h0 v2 0).bind fun v3 =>
  (gR 1 h0 v3 0).bind fun v4 =>
  (gI 2 h0 v4 0).bind fun v5 =>
  some ((v5 : Int32), h0)
 else if a1 = 1 then
  (gR 9 h0 a0 0).bind fun v7 =>
  (gR 6 h0 v7 0).bind fun v8 =>
  (gI 1 h0 v8 1).bind fun v9 =>
  some ((v9 + 10000 : Int32), h0)
 else if a1 = 2 then
  (gR 9 h0 a0 0).bind fun v11 =>
  (gR 6 h0 v11 0).bind fun v12 =>
  (gI 1 h0 v12 2).bind fun v13 =>
  some ((v13 : Int32), h0)
 else if a1 = 3 then
  if mKd h0 a0 = 9 then (fX9_answersNow a0 h0).bind (fun ((v16, h15) : Nat × Mem) => if v16 = 0 then
   none
   else
   (gI 0 h15 v16 0).bind fun v17 =>
   some ((v17 : Int32), h15)) else none
 else if a1 = 4 then
  if mKd h0 a0 = 9 then (fX9_unitsNow a0 h0).bind (fun ((v20, h19) : Nat × Mem) => if v20 = 0 then
   none
   else
   (gI 8 h19 v20 0).bind fun v21 =>
   some ((v21 : Int32), h19)) else none
 else if a1 = 5 then
  if mKd h0 a0 = 9 then (fX9_answersInFamilies a0 h0).bind (fun ((v24, h23) : Nat × Mem) => if v24 = 0 then
   none
   else
   (gI 0 h23 v24 1).bind fun v25 =>
   some ((v25 : Int32), h23)) else none
 else if a1 = 6 then
  if mKd h0 a0 = 9 then (fX9_partsNow a0 h0).bind (fun ((v28, h27) : Nat × Mem) => if v28 = 0 then
   none
   else
   (gI 3 h27 v28 0).bind fun v29 =>
   some ((v29 : Int32), h27)) else none
 else if a1 = 7 then
  if mKd h0 a0 = 9 then (fX9_convergentAnswers a0 h0).bind (fun ((v32, h31) : Int32 × Mem) =>
   some ((v32 : Int32), h31)) else none
 else 
  some (((-1) : Int32), h0)
noncomputable def fX9_value (a0 : Nat) (a1 : Int32) (a2 : Int32) (h0 : Mem) : Option (Int64 × Mem) :=
 (fX9_between a1 (-999) 999 h0).bind (fun ((v2, h1) : Int32 × Mem) =>
  if v2 = 0 then
   some (((-9223372036854775808) : Int64), h1)
  else
   (fX9_between a2 (-999) 999 h1).bind (fun ((v4, h3) : Int32 × Mem) =>
    if v4 = 0 then
     some (((-9223372036854775808) : Int64), h3)
    else
     (gR 9 h3 a0 0).bind fun v5 =>
     (gR 6 h3 v5 0).bind fun v6 =>
     (gR 1 h3 v6 0).bind fun v7 =>
     if mKd h3 v7 = 2 then (fX2_at v7 a1.toInt64 a2.toInt64 h3).bind (fun ((v9, h8) : Int64 × Mem) =>
      some ((v9 : Int64), h8)) else none))
noncomputable def fX0_cellOfAnswer (a0 : Nat) (a1 : Int32) (h0 : Mem) : Option (Int32 × Mem) :=
 lpF (fun k3 ((v1, v2) : Int32 × Int32) =>
  (gR 0 h0 a0 5).bind fun v5 =>
  (aLn h0 v5).bind fun v6 =>
  if v6 ≤ v2 then
   some (((-1) : Int32), h0)
  else
   (gR 0 h0 a0 5).bind fun v7 =>
   (xI 11 h0 v7 v2).bind fun v8 =>
   if v8 = (-1) then
    nm (v2 + 1 : Int32) fun v9 =>
    k3 (v1, v9)
   else
    if v1 = a1 then
     some ((v2 : Int32), h0)
    else
     nm (v1 + 1 : Int32) fun v10 =>
     nm (v2 + 1 : Int32) fun v11 =>
     k3 (v10, v11)) FU (0, 0)
noncomputable def fX9_answer (a0 : Nat) (a1 : Int32) (a2 : Int32) (h0 : Mem) : Option (Int32 × Mem) :=
 if a1 < 0 then
  some (((-1) : Int32), h0)
 else
  (fX9_between a2 0 2 h0).bind (fun ((v2, h1) : Int32 × Mem) =>
   if v2 = 0 then
    some (((-1) : Int32), h1)
   else
    jn (fun ((v3, h4) : Nat × Mem) =>
     if mKd h4 v3 = 0 then (fX0_cellOfAnswer v3 a1 h4).bind (fun ((v8, h7) : Int32 × Mem) =>
      if 0 ≤ v8 then
       if a2 = 0 then
        (fX0_xOf v8 h7).bind (fun ((v10, h9) : Int32 × Mem) =>
         some ((v10 + 100 : Int32), h9))
       else
        if a2 = 1 then
         (fX0_yOf v8 h7).bind (fun ((v12, h11) : Int32 × Mem) =>
          some ((v12 + 100 : Int32), h11))
        else
         if mKd h7 v3 = 0 then (fX0_labelAt v3 v8 h7).bind (fun ((v14, h13) : Int32 × Mem) =>
          some ((v14 : Int32), h13)) else none
      else
       some (((-5) : Int32), h7)) else none) (fun k5 =>
     if a2 = 2 then
      if mKd h1 a0 = 9 then (fX9_answersInFamilies a0 h1).bind (fun ((v19, h18) : Nat × Mem) => if v19 = 0 then
       none
       else
       k5 (v19, h18)) else none
     else
      if mKd h1 a0 = 9 then (fX9_answersNow a0 h1).bind (fun ((v21, h20) : Nat × Mem) => if v21 = 0 then
       none
       else
       k5 (v21, h20)) else none))
noncomputable def fJ9_floorMod_f86c9 (a0 : Int64) (a2 : Int64) (h0 : Mem) : Option (Int64 × Mem) :=
 if a2 = 0 then none else
 nm (a0 - a0 / a2 * a2 : Int64) fun v1 =>
 if 0 ≤ (lg_cmp (a0 ^^^ a2) 0) then
  some ((v1 : Int64), h0)
 else
  if (lg_cmp v1 0) = 0 then
   some ((v1 : Int64), h0)
  else
   some ((v1 + a2 : Int64), h0)
noncomputable def fJ9_floorMod_1978a (a0 : Int64) (a2 : Int32) (h0 : Mem) : Option (Int32 × Mem) :=
 (fJ9_floorMod_f86c9 a0 a2.toInt64 h0).bind (fun ((v2, h1) : Int64 × Mem) =>
  some ((v2.toInt32 : Int32), h1))
noncomputable def fX2_remaindersBy (a0 : Nat) (a1 : Int32) (h0 : Mem) : Option (Int32 × Mem) :=
 if 2 ≤ a1 then
  lpF (fun k4 ((v1, v2, h3) : Int32 × Int32 × Mem) =>
   if a1 ≤ v2 then
    some ((v1 : Int32), h3)
   else
    lpF (fun k9 ((v6, v7, h8) : Int32 × Int32 × Mem) =>
     if a1 ≤ v7 then
      nm (v2 + 1 : Int32) fun v17 =>
      k4 (v6, v17, h8)
     else
      if mKd h8 a0 = 2 then (fX2_at a0 v2.toInt64 v7.toInt64 h8).bind (fun ((v12, h11) : Int64 × Mem) =>
       (fJ9_floorMod_1978a v12 a1 h11).bind (fun ((v14, h13) : Int32 × Mem) =>
        nm (v6 ||| (1 <<< (v14 &&& 31)) : Int32) fun v15 =>
        nm (v7 + 1 : Int32) fun v16 =>
        k9 (v15, v16, h13))) else none) FU (v1, 0, h3)) FU (0, 0, h0)
 else
  some ((0 : Int32), h0)
noncomputable def fJ6_bitCount_0f7a4 (a0 : Int32) (h0 : Mem) : Option (Int32 × Mem) :=
 nm (a0 - (((a0.toUInt32 >>> ((1 : Int32).toUInt32 &&& Int32.toUInt32 31)).toInt32) &&& 1431655765) : Int32) fun v1 =>
 nm ((v1 &&& 858993459) + (((v1.toUInt32 >>> ((2 : Int32).toUInt32 &&& Int32.toUInt32 31)).toInt32) &&& 858993459) : Int32) fun v2 =>
 nm ((v2 + ((v2.toUInt32 >>> ((4 : Int32).toUInt32 &&& Int32.toUInt32 31)).toInt32)) &&& 252645135 : Int32) fun v3 =>
 nm (v3 + ((v3.toUInt32 >>> ((8 : Int32).toUInt32 &&& Int32.toUInt32 31)).toInt32) : Int32) fun v4 =>
 nm (v4 + ((v4.toUInt32 >>> ((16 : Int32).toUInt32 &&& Int32.toUInt32 31)).toInt32) : Int32) fun v5 =>
 some ((v5 &&& 63 : Int32), h0)
noncomputable def fJ9_floorMod_7cf53 (a0 : Int32) (a1 : Int32) (h0 : Mem) : Option (Int32 × Mem) :=
 if a1 = 0 then none else
 nm (a0 - a0 / a1 * a1 : Int32) fun v1 =>
 if 0 ≤ (a0 ^^^ a1) then
  some ((v1 : Int32), h0)
 else
  if v1 = 0 then
   some ((v1 : Int32), h0)
  else
   some ((v1 + a1 : Int32), h0)
noncomputable def fX1_isBarredBy (a0 : Nat) (a1 : Int32) (h0 : Mem) : Option (Int32 × Mem) :=
 if 2 ≤ a1 then
  (gR 1 h0 a0 0).bind fun v1 =>
  if mKd h0 v1 = 2 then (fX2_remaindersBy v1 a1 h0).bind (fun ((v3, h2) : Int32 × Mem) =>
   (gI 1 h2 a0 1).bind fun v4 =>
   (fJ9_floorMod_7cf53 v4 a1 h2).bind (fun ((v6, h5) : Int32 × Mem) =>
    if ((v3 >>> (v6 &&& 31)) &&& 1) = 0 then
     some ((1 : Int32), h5)
    else
     some ((0 : Int32), h5))) else none
 else
  some ((0 : Int32), h0)
noncomputable def fX9_prime (a0 : Nat) (a1 : Int32) (a2 : Int32) (h0 : Mem) : Option (Int32 × Mem) :=
 if a1 < 0 then
  some (((-1) : Int32), h0)
 else
  if a1 < 6 then
   (xT tabP 6 a1).bind fun v1 =>
   if a2 = 0 then
    some ((v1 : Int32), h0)
   else if a2 = 1 then
    (gR 9 h0 a0 0).bind fun v4 =>
    (gR 6 h0 v4 0).bind fun v5 =>
    (gR 1 h0 v5 0).bind fun v6 =>
    if mKd h0 v6 = 2 then (fX2_remaindersBy v6 v1 h0).bind (fun ((v8, h7) : Int32 × Mem) =>
     (fJ6_bitCount_0f7a4 v8 h7).bind (fun ((v10, h9) : Int32 × Mem) =>
      some ((v10 : Int32), h9))) else none
   else if a2 = 2 then
    (gR 9 h0 a0 0).bind fun v12 =>
    (gR 6 h0 v12 0).bind fun v13 =>
    if mKd h0 v13 = 1 then (fX1_isBarredBy v13 v1 h0).bind (fun ((v15, h14) : Int32 × Mem) =>
     if v15 = 0 then
      some ((0 : Int32), h14)
     else
      some ((1 : Int32), h14)) else none
   else 
    some (((-1) : Int32), h0)
  else
   some (((-1) : Int32), h0)
noncomputable def fX1_firstBar (a0 : Nat) (h0 : Mem) : Option (Int32 × Mem) :=
 lpF (fun k3 ((v1, h2) : Int32 × Mem) =>
  if 6 ≤ v1 then
   some (((-5) : Int32), h2)
  else
   (xT tabP 6 v1).bind fun v5 =>
   if mKd h2 a0 = 1 then (fX1_isBarredBy a0 v5 h2).bind (fun ((v7, h6) : Int32 × Mem) =>
    if v7 = 0 then
     nm (v1 + 1 : Int32) fun v9 =>
     k3 (v9, h6)
    else
     (xT tabP 6 v1).bind fun v8 =>
     some ((v8 : Int32), h6)) else none) FU (0, h0)
noncomputable def fX9_reason (a0 : Nat) (a1 : Int32) (h0 : Mem) : Option (Int32 × Mem) :=
 if 0 ≤ a1 then
  if 2 < a1 then
   some (((-5) : Int32), h0)
  else
   if mKd h0 a0 = 9 then (fX9_answersNow a0 h0).bind (fun ((v2, h1) : Nat × Mem) => if v2 = 0 then
    none
    else
    (gI 0 h1 v2 0).bind fun v3 =>
    if v3 ≤ 0 then
     if a1 = 0 then
      (gR 9 h1 a0 0).bind fun v4 =>
      (gR 6 h1 v4 0).bind fun v5 =>
      (gI 1 h1 v5 2).bind fun v6 =>
      some ((v6 : Int32), h1)
     else
      (gR 9 h1 a0 0).bind fun v7 =>
      (gR 6 h1 v7 0).bind fun v8 =>
      if mKd h1 v8 = 1 then (fX1_firstBar v8 h1).bind (fun ((v10, h9) : Int32 × Mem) =>
       if a1 = 1 then
        some ((v10 : Int32), h9)
       else
        if v10 = (-5) then
         some ((v10 : Int32), h9)
        else
         (gR 9 h9 a0 0).bind fun v11 =>
         (gR 6 h9 v11 0).bind fun v12 =>
         (gR 1 h9 v12 0).bind fun v13 =>
         if mKd h9 v13 = 2 then (fX2_remaindersBy v13 v10 h9).bind (fun ((v15, h14) : Int32 × Mem) =>
          (fJ6_bitCount_0f7a4 v15 h14).bind (fun ((v17, h16) : Int32 × Mem) =>
           some ((v17 : Int32), h16))) else none) else none
    else
     some (((-5) : Int32), h1)) else none
 else
  some (((-1) : Int32), h0)
noncomputable def fX9_unit (a0 : Nat) (a1 : Int32) (a2 : Int32) (h0 : Mem) : Option (Int32 × Mem) :=
 if a1 < 0 then
  some (((-1) : Int32), h0)
 else
  (fX9_between a2 0 3 h0).bind (fun ((v2, h1) : Int32 × Mem) =>
   if v2 = 0 then
    some (((-1) : Int32), h1)
   else
    if mKd h1 a0 = 9 then (fX9_unitsNow a0 h1).bind (fun ((v4, h3) : Nat × Mem) => if v4 = 0 then
     none
     else
     (gI 8 h3 v4 0).bind fun v5 =>
     if v5 ≤ a1 then
      some (((-5) : Int32), h3)
     else
      if mKd h3 v4 = 8 then (fX8_get v4 a1 a2 h3).bind (fun ((v7, h6) : Int32 × Mem) =>
       some ((v7 + 10 : Int32), h6)) else none) else none)
noncomputable def fX0_sizeOfFamily (a0 : Nat) (a1 : Int32) (h0 : Mem) : Option (Int32 × Mem) :=
 lpF (fun k3 ((v1, v2) : Int32 × Int32) =>
  (gR 0 h0 a0 5).bind fun v5 =>
  (aLn h0 v5).bind fun v6 =>
  if v6 ≤ v2 then
   some ((v1 : Int32), h0)
  else
   (gR 0 h0 a0 5).bind fun v7 =>
   (xI 11 h0 v7 v2).bind fun v8 =>
   if v8 = a1 then
    nm (v1 + 1 : Int32) fun v9 =>
    nm (v2 + 1 : Int32) fun v10 =>
    k3 (v9, v10)
   else
    nm (v2 + 1 : Int32) fun v11 =>
    k3 (v1, v11)) FU (0, 0)
noncomputable def fX9_family (a0 : Nat) (a1 : Int32) (h0 : Mem) : Option (Int32 × Mem) :=
 if 0 ≤ a1 then
  if mKd h0 a0 = 9 then (fX9_answersInFamilies a0 h0).bind (fun ((v2, h1) : Nat × Mem) => if v2 = 0 then
   none
   else
   (gI 0 h1 v2 1).bind fun v3 =>
   if v3 ≤ a1 then
    some (((-5) : Int32), h1)
   else
    if mKd h1 v2 = 0 then (fX0_sizeOfFamily v2 a1 h1).bind (fun ((v5, h4) : Int32 × Mem) =>
     some ((v5 : Int32), h4)) else none) else none
 else
  some (((-1) : Int32), h0)
noncomputable def fX3_get (a0 : Nat) (a1 : Int32) (h0 : Mem) : Option (Int32 × Mem) :=
 if a1 < 0 then
  some ((0 : Int32), h0)
 else
  (gI 3 h0 a0 0).bind fun v1 =>
  if v1 ≤ a1 then
   some ((0 : Int32), h0)
  else
   if 8 ≤ a1 then
    some ((0 : Int32), h0)
   else
    (gR 3 h0 a0 3).bind fun v2 =>
    (xI 11 h0 v2 a1).bind fun v3 =>
    some ((v3 : Int32), h0)
noncomputable def fX9_part (a0 : Nat) (a1 : Int32) (h0 : Mem) : Option (Int32 × Mem) :=
 if 0 ≤ a1 then
  if mKd h0 a0 = 9 then (fX9_partsNow a0 h0).bind (fun ((v2, h1) : Nat × Mem) => if v2 = 0 then
   none
   else
   (gI 3 h1 v2 0).bind fun v3 =>
   if v3 ≤ a1 then
    some (((-5) : Int32), h1)
   else
    if mKd h1 v2 = 3 then (fX3_get v2 a1 h1).bind (fun ((v5, h4) : Int32 × Mem) =>
     some ((v5 : Int32), h4)) else none) else none
 else
  some (((-1) : Int32), h0)
noncomputable def fX9_convergent (a0 : Nat) (a1 : Int32) (a2 : Int32) (h0 : Mem) : Option (Int64 × Mem) :=
 if a1 < 0 then
  some (((-9223372036854775808) : Int64), h0)
 else
  (fX9_between a2 0 1 h0).bind (fun ((v2, h1) : Int32 × Mem) =>
   if v2 = 0 then
    some (((-9223372036854775808) : Int64), h1)
   else
    if mKd h1 a0 = 9 then (fX9_partsNow a0 h1).bind (fun ((v4, h3) : Nat × Mem) => if v4 = 0 then
     none
     else
     (gI 3 h3 v4 0).bind fun v5 =>
     if a1 < v5 then
      if a2 = 0 then
       if mKd h3 v4 = 3 then (fX3_above v4 a1 h3).bind (fun ((v7, h6) : Int64 × Mem) =>
        some ((v7 : Int64), h6)) else none
      else
       if mKd h3 v4 = 3 then (fX3_below v4 a1 h3).bind (fun ((v9, h8) : Int64 × Mem) =>
        some ((v9 : Int64), h8)) else none
     else
      some (((-9223372036854775808) : Int64), h3)) else none)
noncomputable def fX9_see (a0 : Nat) (a1 : Int32) (a2 : Int32) (a3 : Int32) (h0 : Mem) : Option (Int32 × Mem) :=
 if a1 = (-100) then
  (gR 9 h0 a0 0).bind fun v1 =>
  (gR 6 h0 v1 1).bind fun v2 =>
  if mKd h0 v2 = 4 then (fX4_empty v2 h0).bind (fun ((v4, h3) : Int32 × Mem) =>
   some ((v4 : Int32), h3)) else none
 else
  (fX9_between a1 (-9) 9 h0).bind (fun ((v6, h5) : Int32 × Mem) =>
   if v6 = 0 then
    some (((-2) : Int32), h5)
   else
    (fX9_between a2 (-9) 9 h5).bind (fun ((v8, h7) : Int32 × Mem) =>
     if v8 = 0 then
      some (((-2) : Int32), h7)
     else
      (fX9_between a3 (-9999) 9999 h7).bind (fun ((v10, h9) : Int32 × Mem) =>
       if v10 = 0 then
        some (((-2) : Int32), h9)
       else
        (gR 9 h9 a0 0).bind fun v11 =>
        (gR 6 h9 v11 1).bind fun v12 =>
        if mKd h9 v12 = 4 then (fX4_add v12 a1 a2 a3 h9).bind (fun ((v14, h13) : Int32 × Mem) =>
         some ((v14 : Int32), h13)) else none)))
noncomputable def fX9_isAsSeen (a0 : Nat) (a1 : Nat) (h0 : Mem) : Option (Int32 × Mem) :=
 lpF (fun k3 ((v1, h2) : Int32 × Mem) =>
  (gR 9 h2 a0 0).bind fun v5 =>
  (gR 6 h2 v5 1).bind fun v6 =>
  (gI 4 h2 v6 0).bind fun v7 =>
  if v7 ≤ v1 then
   some ((1 : Int32), h2)
  else
   (gR 9 h2 a0 0).bind fun v8 =>
   (gR 6 h2 v8 1).bind fun v9 =>
   if mKd h2 v9 = 4 then (fX4_first v9 v1 h2).bind (fun ((v11, h10) : Int32 × Mem) =>
    (gR 9 h10 a0 0).bind fun v12 =>
    (gR 6 h10 v12 1).bind fun v13 =>
    if mKd h10 v13 = 4 then (fX4_second v13 v1 h10).bind (fun ((v15, h14) : Int32 × Mem) =>
     if mKd h14 a1 = 2 then (fX2_at a1 v11.toInt64 v15.toInt64 h14).bind (fun ((v17, h16) : Int64 × Mem) =>
      (gR 9 h16 a0 0).bind fun v18 =>
      (gR 6 h16 v18 1).bind fun v19 =>
      if mKd h16 v19 = 4 then (fX4_third v19 v1 h16).bind (fun ((v21, h20) : Int32 × Mem) =>
       if (lg_cmp v17 v21.toInt64) = 0 then
        nm (v1 + 1 : Int32) fun v22 =>
        k3 (v22, h20)
       else
        some ((0 : Int32), h20)) else none) else none) else none) else none) FU (0, h0)
noncomputable def fX9_fits (a0 : Nat) (a1 : Int32) (a2 : Int32) (h0 : Mem) : Option (Int32 × Mem) :=
 (gR 9 h0 a0 0).bind fun v1 =>
 (gR 6 h0 v1 0).bind fun v2 =>
 (gR 1 h0 v2 0).bind fun v3 =>
 if mKd h0 v3 = 2 then (fX2_has v3 a1 h0).bind (fun ((v5, h4) : Int32 × Mem) =>
  if v5 = 0 then
   some (((-1) : Int32), h4)
  else
   (fX9_between a2 0 1 h4).bind (fun ((v7, h6) : Int32 × Mem) =>
    if v7 = 0 then
     some (((-1) : Int32), h6)
    else
     (gR 9 h6 a0 3).bind fun v8 =>
     (gR 1 h6 v8 0).bind fun v9 =>
     (gR 9 h6 a0 0).bind fun v10 =>
     (gR 6 h6 v10 0).bind fun v11 =>
     (gR 1 h6 v11 0).bind fun v12 =>
     if mKd h6 v9 = 2 then (fX2_copy v9 v12 h6).bind (fun ((_u, h13) : Unit × Mem) =>
      lpF (fun k18 ((v14, v15, v16, h17) : Int32 × Int32 × Int32 × Mem) =>
       if v16 < (-99) then
        if a2 = 0 then
         some ((v14 : Int32), h17)
        else
         some ((v15 : Int32), h17)
       else
        if mKd h17 v9 = 2 then (fX2_set v9 a1 v16 h17).bind (fun ((_u, h20) : Unit × Mem) =>
         if mKd h20 a0 = 9 then (fX9_isAsSeen a0 v9 h20).bind (fun ((v22, h21) : Int32 × Mem) =>
          if v22 = 0 then
           nm (v16 + (-1) : Int32) fun v26 =>
           k18 (v14, v15, v26, h21)
          else
           nm (v14 + 1 : Int32) fun v23 =>
           nm (v16 + 100 : Int32) fun v24 =>
           nm (v16 + (-1) : Int32) fun v25 =>
           k18 (v23, v24, v25, h21)) else none) else none) FU (0, 0, 99, h13)) else none)) else none
noncomputable def fX1_valuesAboveM (a0 : Nat) (h0 : Mem) : Option (Int64 × Mem) :=
 (gI 1 h0 a0 2).bind fun v1 =>
 nm (-v1 : Int32) fun v2 =>
 lpF (fun k6 ((v3, v4, h5) : Int64 × Int32 × Mem) =>
  (gI 1 h5 a0 2).bind fun v8 =>
  if v8 < v4 then
   some ((v3 : Int64), h5)
  else
   (gI 1 h5 a0 2).bind fun v9 =>
   nm (-v9 : Int32) fun v10 =>
   lpF (fun k14 ((v11, v12, h13) : Int64 × Int32 × Mem) =>
    (gI 1 h13 a0 2).bind fun v16 =>
    if v16 < v12 then
     nm (v4 + 1 : Int32) fun v25 =>
     k6 (v11, v25, h13)
    else
     (gR 1 h13 a0 0).bind fun v17 =>
     if mKd h13 v17 = 2 then (fX2_at v17 v4.toInt64 v12.toInt64 h13).bind (fun ((v19, h18) : Int64 × Mem) =>
      (gI 1 h18 a0 1).bind fun v20 =>
      if (lg_cmp v19 v20.toInt64) ≤ 0 then
       nm (v12 + 1 : Int32) fun v23 =>
       k14 (v11, v23, h18)
      else
       nm (v11 + 1 : Int64) fun v21 =>
       nm (v12 + 1 : Int32) fun v22 =>
       k14 (v21, v22, h18)) else none) FU (v3, v10, h5)) FU (0, v2, h0)
noncomputable def fX1_twos (a0 : Nat) (h0 : Mem) : Option (Int64 × Mem) :=
 (gI 1 h0 a0 2).bind fun v1 =>
 nm ((2 * v1.toInt64) + 1 : Int64) fun v2 =>
 some ((v2 * v2 : Int64), h0)
noncomputable def fJ9_abs_067f4 (a0 : Int64) (h0 : Mem) : Option (Int64 × Mem) :=
 if 0 ≤ (lg_cmp a0 0) then
  some ((a0 : Int64), h0)
 else
  some ((-a0 : Int64), h0)
noncomputable def fX9_commonDivisor (a0 : Int64) (a2 : Int64) (h0 : Mem) : Option (Int64 × Mem) :=
 lpF (fun k4 ((v1, v2, v3) : Int64 × Int64 × Int32) =>
  if 128 ≤ v3 then
   some ((v1 : Int64), h0)
  else
   if (lg_cmp v2 0) = 0 then
    some ((v1 : Int64), h0)
   else
    if v2 = 0 then none else
    nm (v1 - v1 / v2 * v2 : Int64) fun v6 =>
    nm (v3 + 1 : Int32) fun v7 =>
    k4 (v2, v6, v7)) FU (a0, a2, 0)
noncomputable def fX9_lowest (a0 : Int64) (a2 : Int64) (a4 : Int32) (h0 : Mem) : Option (Int64 × Mem) :=
 (fJ9_abs_067f4 a0 h0).bind (fun ((v2, h1) : Int64 × Mem) =>
  (fX9_commonDivisor v2 a2 h1).bind (fun ((v4, h3) : Int64 × Mem) =>
   if 0 ≤ (lg_cmp v4 1) then
    if a4 = 0 then
     if v4 = 0 then none else
     some ((a0 / v4 : Int64), h3)
    else
     if v4 = 0 then none else
     some ((a2 / v4 : Int64), h3)
   else
    some (((-9223372036854775808) : Int64), h3)))
noncomputable def fX9_odds (a0 : Nat) (a1 : Int32) (h0 : Mem) : Option (Int64 × Mem) :=
 (fX9_between a1 0 1 h0).bind (fun ((v2, h1) : Int32 × Mem) =>
  if v2 = 0 then
   some (((-9223372036854775808) : Int64), h1)
  else
   (gR 9 h1 a0 0).bind fun v3 =>
   (gR 6 h1 v3 0).bind fun v4 =>
   if mKd h1 v4 = 1 then (fX1_valuesAboveM v4 h1).bind (fun ((v6, h5) : Int64 × Mem) =>
    (gR 9 h5 a0 0).bind fun v7 =>
    (gR 6 h5 v7 0).bind fun v8 =>
    if mKd h5 v8 = 1 then (fX1_twos v8 h5).bind (fun ((v10, h9) : Int64 × Mem) =>
     (fX9_lowest v6 v10 a1 h9).bind (fun ((v12, h11) : Int64 × Mem) =>
      some ((v12 : Int64), h11))) else none) else none)
noncomputable def fX1_valuesTogether (a0 : Nat) (h0 : Mem) : Option (Int64 × Mem) :=
 (gI 1 h0 a0 2).bind fun v1 =>
 nm (-v1 : Int32) fun v2 =>
 lpF (fun k6 ((v3, v4, h5) : Int64 × Int32 × Mem) =>
  (gI 1 h5 a0 2).bind fun v8 =>
  if v8 < v4 then
   some ((v3 : Int64), h5)
  else
   (gI 1 h5 a0 2).bind fun v9 =>
   nm (-v9 : Int32) fun v10 =>
   lpF (fun k14 ((v11, v12, h13) : Int64 × Int32 × Mem) =>
    (gI 1 h13 a0 2).bind fun v16 =>
    if v16 < v12 then
     nm (v4 + 1 : Int32) fun v22 =>
     k6 (v11, v22, h13)
    else
     (gR 1 h13 a0 0).bind fun v17 =>
     if mKd h13 v17 = 2 then (fX2_at v17 v4.toInt64 v12.toInt64 h13).bind (fun ((v19, h18) : Int64 × Mem) =>
      nm (v11 + v19 : Int64) fun v20 =>
      nm (v12 + 1 : Int32) fun v21 =>
      k14 (v20, v21, h18)) else none) FU (v3, v10, h5)) FU (0, v2, h0)
noncomputable def fX9_mean (a0 : Nat) (a1 : Int32) (h0 : Mem) : Option (Int64 × Mem) :=
 (fX9_between a1 0 1 h0).bind (fun ((v2, h1) : Int32 × Mem) =>
  if v2 = 0 then
   some (((-9223372036854775808) : Int64), h1)
  else
   (gR 9 h1 a0 0).bind fun v3 =>
   (gR 6 h1 v3 0).bind fun v4 =>
   if mKd h1 v4 = 1 then (fX1_valuesTogether v4 h1).bind (fun ((v6, h5) : Int64 × Mem) =>
    (gR 9 h5 a0 0).bind fun v7 =>
    (gR 6 h5 v7 0).bind fun v8 =>
    if mKd h5 v8 = 1 then (fX1_twos v8 h5).bind (fun ((v10, h9) : Int64 × Mem) =>
     (fX9_lowest v6 v10 a1 h9).bind (fun ((v12, h11) : Int64 × Mem) =>
      some ((v12 : Int64), h11))) else none) else none)
noncomputable def fX9_event (a0 : Nat) (a1 : Int32) (a2 : Int32) (h0 : Mem) : Option (Int32 × Mem) :=
 if a1 = (-1) then
  (gR 9 h0 a0 0).bind fun v1 =>
  (gR 6 h0 v1 2).bind fun v2 =>
  if mKd h0 v2 = 4 then (fX4_empty v2 h0).bind (fun ((v4, h3) : Int32 × Mem) =>
   some ((v4 : Int32), h3)) else none
 else
  (fX9_between a1 0 2 h0).bind (fun ((v6, h5) : Int32 × Mem) =>
   if v6 = 0 then
    some (((-1) : Int32), h5)
   else
    jn (fun (h7 : Mem) =>
     jn (fun (h10 : Mem) =>
      jn (fun (h13 : Mem) =>
       (gR 9 h13 a0 0).bind fun v16 =>
       (gR 6 h13 v16 2).bind fun v17 =>
       if mKd h13 v17 = 4 then (fX4_add v17 a1 a2 0 h13).bind (fun ((v19, h18) : Int32 × Mem) =>
        some ((v19 : Int32), h18)) else none) (fun k14 =>
       if a1 = 2 then
        (fX9_between a2 (-99) 99 h10).bind (fun ((v21, h20) : Int32 × Mem) =>
         if v21 = 0 then
          some (((-2) : Int32), h20)
         else
          k14 h20)
       else
        k14 h10)) (fun k11 =>
      if a1 = 1 then
       (fX2_isMove a2 h7).bind (fun ((v25, h24) : Int32 × Mem) =>
        if v25 = 0 then
         some (((-1) : Int32), h24)
        else
         k11 h24)
      else
       k11 h7)) (fun k8 =>
     if a1 = 0 then
      (gR 9 h5 a0 0).bind fun v28 =>
      (gR 6 h5 v28 0).bind fun v29 =>
      (gR 1 h5 v29 0).bind fun v30 =>
      if mKd h5 v30 = 2 then (fX2_has v30 a2 h5).bind (fun ((v32, h31) : Int32 × Mem) =>
       if v32 = 0 then
        some (((-1) : Int32), h31)
       else
        k8 h31) else none
     else
      k8 h5))
noncomputable def fJ9_min_7cf53 (a0 : Int32) (a1 : Int32) (h0 : Mem) : Option (Int32 × Mem) :=
 if a1 < a0 then
  some ((a1 : Int32), h0)
 else
  some ((a0 : Int32), h0)
noncomputable def fX2_raise (a0 : Nat) (a1 : Int32) (h0 : Mem) : Option (Unit × Mem) :=
 if mKd h0 a0 = 2 then (fX2_get a0 a1 h0).bind (fun ((v2, h1) : Int32 × Mem) =>
  (fJ9_min_7cf53 99 (v2 + 1) h1).bind (fun ((v4, h3) : Int32 × Mem) =>
   if mKd h3 a0 = 2 then (fX2_set a0 a1 v4 h3).bind (fun ((_u, h5) : Unit × Mem) =>
    some ((), h5)) else none)) else none
noncomputable def fX1_addToM (a0 : Nat) (a1 : Int32) (h0 : Mem) : Option (Unit × Mem) :=
 (gI 1 h0 a0 1).bind fun v1 =>
 (fX9_between (v1 + a1) (-9999) 9999 h0).bind (fun ((v3, h2) : Int32 × Mem) =>
  if v3 = 0 then
   some ((), h2)
  else
   (gI 1 h2 a0 1).bind fun v4 =>
   (pI 1 h2 a0 1 (v4 + a1)).bind fun h5 =>
   some ((), h5))
noncomputable def fX9_tryEvents (a0 : Nat) (h0 : Mem) : Option (Unit × Mem) :=
 (gR 9 h0 a0 3).bind fun v1 =>
 (gR 9 h0 a0 0).bind fun v2 =>
 (gR 6 h0 v2 0).bind fun v3 =>
 if mKd h0 v1 = 1 then (fX1_copy v1 v3 h0).bind (fun ((_u, h4) : Unit × Mem) =>
  lpF (fun k7 ((v5, h6) : Int32 × Mem) =>
   (gR 9 h6 a0 0).bind fun v9 =>
   (gR 6 h6 v9 2).bind fun v10 =>
   (gI 4 h6 v10 0).bind fun v11 =>
   if v11 ≤ v5 then
    some ((), h6)
   else
    (gR 9 h6 a0 0).bind fun v12 =>
    (gR 6 h6 v12 2).bind fun v13 =>
    if mKd h6 v13 = 4 then (fX4_second v13 v5 h6).bind (fun ((v15, h14) : Int32 × Mem) =>
     (gR 9 h14 a0 0).bind fun v16 =>
     (gR 6 h14 v16 2).bind fun v17 =>
     if mKd h14 v17 = 4 then (fX4_first v17 v5 h14).bind (fun ((v19, h18) : Int32 × Mem) =>
      if v19 = 0 then
       (gR 9 h18 a0 3).bind fun v21 =>
       (gR 1 h18 v21 0).bind fun v22 =>
       if mKd h18 v22 = 2 then (fX2_raise v22 v15 h18).bind (fun ((_u, h23) : Unit × Mem) =>
        nm (v5 + 1 : Int32) fun v24 =>
        k7 (v24, h23)) else none
      else if v19 = 1 then
       (gR 9 h18 a0 3).bind fun v26 =>
       (gR 1 h18 v26 0).bind fun v27 =>
       if mKd h18 v27 = 2 then (fX2_moveBy v27 v15 h18).bind (fun ((v29, h28) : Int32 × Mem) =>
        nm (v5 + 1 : Int32) fun v30 =>
        k7 (v30, h28)) else none
      else 
       (gR 9 h18 a0 3).bind fun v31 =>
       if mKd h18 v31 = 1 then (fX1_addToM v31 v15 h18).bind (fun ((_u, h32) : Unit × Mem) =>
        nm (v5 + 1 : Int32) fun v33 =>
        k7 (v33, h32)) else none) else none) else none) FU (0, h4)) else none
noncomputable def fX1_howManyAnswers (a0 : Nat) (h0 : Mem) : Option (Int32 × Mem) :=
 (gI 1 h0 a0 2).bind fun v1 =>
 nm (-v1 : Int32) fun v2 =>
 lpF (fun k6 ((v3, v4, h5) : Int32 × Int32 × Mem) =>
  (gI 1 h5 a0 2).bind fun v8 =>
  if v8 < v4 then
   some ((v3 : Int32), h5)
  else
   (gI 1 h5 a0 2).bind fun v9 =>
   nm (-v9 : Int32) fun v10 =>
   lpF (fun k14 ((v11, v12, h13) : Int32 × Int32 × Mem) =>
    (gI 1 h13 a0 2).bind fun v16 =>
    if v16 < v12 then
     nm (v4 + 1 : Int32) fun v25 =>
     k6 (v11, v25, h13)
    else
     (gR 1 h13 a0 0).bind fun v17 =>
     if mKd h13 v17 = 2 then (fX2_at v17 v4.toInt64 v12.toInt64 h13).bind (fun ((v19, h18) : Int64 × Mem) =>
      (gI 1 h18 a0 1).bind fun v20 =>
      if (lg_cmp v19 v20.toInt64) = 0 then
       nm (v11 + 1 : Int32) fun v21 =>
       nm (v12 + 1 : Int32) fun v22 =>
       k14 (v21, v22, h18)
      else
       nm (v12 + 1 : Int32) fun v23 =>
       k14 (v11, v23, h18)) else none) FU (v3, v10, h5)) FU (0, v2, h0)
noncomputable def fX9_after (a0 : Nat) (a1 : Int32) (h0 : Mem) : Option (Int32 × Mem) :=
 (fX9_between a1 0 2 h0).bind (fun ((v2, h1) : Int32 × Mem) =>
  if v2 = 0 then
   some (((-1) : Int32), h1)
  else
   if mKd h1 a0 = 9 then (fX9_tryEvents a0 h1).bind (fun ((_u, h3) : Unit × Mem) =>
    if a1 = 0 then
     (gR 9 h3 a0 3).bind fun v4 =>
     if mKd h3 v4 = 1 then (fX1_howManyAnswers v4 h3).bind (fun ((v6, h5) : Int32 × Mem) =>
      some ((v6 : Int32), h5)) else none
    else
     if a1 = 1 then
      (gR 9 h3 a0 3).bind fun v7 =>
      if mKd h3 v7 = 1 then (fX1_firstBar v7 h3).bind (fun ((v9, h8) : Int32 × Mem) =>
       some ((v9 : Int32), h8)) else none
     else
      (gR 9 h3 a0 5).bind fun v10 =>
      (gR 9 h3 a0 3).bind fun v11 =>
      (gR 1 h3 v11 0).bind fun v12 =>
      if mKd h3 v10 = 8 then (fX8_look v10 v12 h3).bind (fun ((_u, h13) : Unit × Mem) =>
       (gR 9 h13 a0 5).bind fun v14 =>
       (gI 8 h13 v14 0).bind fun v15 =>
       some ((v15 : Int32), h13)) else none) else none)
noncomputable def fJ9_min_f86c9 (a0 : Int64) (a2 : Int64) (h0 : Mem) : Option (Int64 × Mem) :=
 if 0 < (lg_cmp a0 a2) then
  some ((a2 : Int64), h0)
 else
  some ((a0 : Int64), h0)
noncomputable def fX9_book (a0 : Nat) (a1 : Int32) (a2 : Int32) (h0 : Mem) : Option (Int32 × Mem) :=
 if a1 = (-1) then
  (gR 9 h0 a0 0).bind fun v1 =>
  (gR 6 h0 v1 3).bind fun v2 =>
  if mKd h0 v2 = 4 then (fX4_empty v2 h0).bind (fun ((v4, h3) : Int32 × Mem) =>
   some ((v4 : Int32), h3)) else none
 else
  (gR 9 h0 a0 0).bind fun v5 =>
  (gR 6 h0 v5 0).bind fun v6 =>
  (gR 1 h0 v6 0).bind fun v7 =>
  if mKd h0 v7 = 2 then (fX2_has v7 a1 h0).bind (fun ((v9, h8) : Int32 × Mem) =>
   if v9 = 0 then
    some (((-1) : Int32), h8)
   else
    (fX9_between a2 (-99) 99 h8).bind (fun ((v11, h10) : Int32 × Mem) =>
     if v11 = 0 then
      some (((-2) : Int32), h10)
     else
      (gR 9 h10 a0 0).bind fun v12 =>
      (gR 6 h10 v12 3).bind fun v13 =>
      if mKd h10 v13 = 4 then (fX4_add v13 a1 a2 0 h10).bind (fun ((v15, h14) : Int32 × Mem) =>
       some ((v15 : Int32), h14)) else none)) else none
noncomputable def fX9_looked (a0 : Nat) (h0 : Mem) : Option (Int32 × Mem) :=
 (gR 9 h0 a0 0).bind fun v1 =>
 (gR 6 h0 v1 0).bind fun v2 =>
 (gR 1 h0 v2 0).bind fun v3 =>
 lpF (fun k6 ((v4, h5) : Int32 × Mem) =>
  (gR 9 h5 a0 0).bind fun v8 =>
  (gR 6 h5 v8 3).bind fun v9 =>
  (gI 4 h5 v9 0).bind fun v10 =>
  if v10 ≤ v4 then
   some (((-5) : Int32), h5)
  else
   (gR 9 h5 a0 0).bind fun v11 =>
   (gR 6 h5 v11 3).bind fun v12 =>
   if mKd h5 v12 = 4 then (fX4_first v12 v4 h5).bind (fun ((v14, h13) : Int32 × Mem) =>
    if mKd h13 v3 = 2 then (fX2_has v3 v14 h13).bind (fun ((v16, h15) : Int32 × Mem) =>
     if v16 = 0 then
      some ((v4 : Int32), h15)
     else
      if mKd h15 v3 = 2 then (fX2_get v3 v14 h15).bind (fun ((v18, h17) : Int32 × Mem) =>
       (gR 9 h17 a0 0).bind fun v19 =>
       (gR 6 h17 v19 3).bind fun v20 =>
       if mKd h17 v20 = 4 then (fX4_second v20 v4 h17).bind (fun ((v22, h21) : Int32 × Mem) =>
        if v18 = v22 then
         nm (v4 + 1 : Int32) fun v23 =>
         k6 (v23, h21)
        else
         some ((v4 : Int32), h21)) else none) else none) else none) else none) FU (0, h0)
noncomputable def fX9_tapeAt (a0 : Nat) (a1 : Int32) (h0 : Mem) : Option (Nat × Mem) :=
 if a1 < 0 then
  some ((0 : Nat), h0)
 else
  (gR 9 h0 a0 8).bind fun v1 =>
  (aLn h0 v1).bind fun v2 =>
  if v2 ≤ a1 then
   some ((0 : Nat), h0)
  else
   (gR 9 h0 a0 8).bind fun v3 =>
   (xR h0 v3 a1).bind fun v4 =>
   some (v4, h0)
noncomputable def fX7_holdsNothing (a0 : Nat) (h0 : Mem) : Option (Int32 × Mem) :=
 (gI 7 h0 a0 0).bind fun v1 =>
 if v1 = (-1) then
  some ((1 : Int32), h0)
 else
  some ((0 : Int32), h0)
noncomputable def fX7_has (a0 : Nat) (a1 : Int32) (h0 : Mem) : Option (Int32 × Mem) :=
 if a1 < 0 then
  some ((0 : Int32), h0)
 else
  (gI 7 h0 a0 2).bind fun v1 =>
  if v1 ≤ a1 then
   some ((0 : Int32), h0)
  else
   (gR 7 h0 a0 1).bind fun v2 =>
   (aLn h0 v2).bind fun v3 =>
   if v3 ≤ a1 then
    some ((0 : Int32), h0)
   else
    some ((1 : Int32), h0)
noncomputable def fX7_get (a0 : Nat) (a1 : Int32) (h0 : Mem) : Option (Int64 × Mem) :=
 if mKd h0 a0 = 7 then (fX7_has a0 a1 h0).bind (fun ((v2, h1) : Int32 × Mem) =>
  if v2 = 0 then
   some ((0 : Int64), h1)
  else
   (gR 7 h1 a0 1).bind fun v3 =>
   (xJ h1 v3 a1).bind fun v4 =>
   some ((v4 : Int64), h1)) else none
noncomputable def fX9_judge (a0 : Nat) (a1 : Int32) (a2 : Int32) (h0 : Mem) : Option (Int32 × Mem) :=
 if mKd h0 a0 = 9 then (fX9_tapeAt a0 a1 h0).bind (fun ((v2, h1) : Nat × Mem) => if v2 = 0 then
  some (((-1) : Int32), h1)
  else
  if mKd h1 v2 = 7 then (fX7_holdsNothing v2 h1).bind (fun ((v4, h3) : Int32 × Mem) =>
   jn (fun (_ : Unit) =>
    (gR 9 h3 a0 0).bind fun v7 =>
    (gR 6 h3 v7 0).bind fun v8 =>
    (gR 1 h3 v8 0).bind fun v9 =>
    lpF (fun k12 ((v10, h11) : Int32 × Mem) =>
     (gI 2 h11 v9 0).bind fun v14 =>
     if v14 < v10 then
      some (((-5) : Int32), h11)
     else
      if mKd h11 v2 = 7 then (fX7_has v2 (a2 + v10) h11).bind (fun ((v16, h15) : Int32 × Mem) =>
       if v16 = 0 then
        some ((100 + v10 : Int32), h15)
       else
        if mKd h15 v2 = 7 then (fX7_get v2 (a2 + v10) h15).bind (fun ((v18, h17) : Int64 × Mem) =>
         if mKd h17 v9 = 2 then (fX2_get v9 v10 h17).bind (fun ((v20, h19) : Int32 × Mem) =>
          if (lg_cmp v18 v20.toInt64) = 0 then
           nm (v10 + 1 : Int32) fun v21 =>
           k12 (v21, h19)
          else
           some ((v10 : Int32), h19)) else none) else none) else none) FU (0, h3)) (fun k5 =>
    if v4 = 0 then
     (gI 7 h3 v2 0).bind fun v25 =>
     if v25 = 1 then
      k5 ()
     else
      some (((-12) : Int32), h3)
    else
     k5 ())) else none) else none
noncomputable def fX4_copy (a0 : Nat) (a1 : Nat) (h0 : Mem) : Option (Unit × Mem) :=
 (gI 4 h0 a1 0).bind fun v1 =>
 (pI 4 h0 a0 0 v1).bind fun h2 =>
 (gR 4 h2 a1 1).bind fun v3 =>
 (gR 4 h2 a0 1).bind fun v4 =>
 (gR 4 h2 a0 1).bind fun v5 =>
 (aLn h2 v5).bind fun v6 =>
 (gR 4 h2 a1 1).bind fun v7 =>
 (aLn h2 v7).bind fun v8 =>
 (fJ9_min_7cf53 v6 v8 h2).bind (fun ((v10, h9) : Int32 × Mem) =>
  (cpI h9 v3 0 v4 0 v10).bind fun h11 =>
  some ((), h11))
noncomputable def fX6_copy (a0 : Nat) (a1 : Nat) (h0 : Mem) : Option (Unit × Mem) :=
 (gR 6 h0 a0 0).bind fun v1 =>
 (gR 6 h0 a1 0).bind fun v2 =>
 if mKd h0 v1 = 1 then (fX1_copy v1 v2 h0).bind (fun ((_u, h3) : Unit × Mem) =>
  (gR 6 h3 a0 1).bind fun v4 =>
  (gR 6 h3 a1 1).bind fun v5 =>
  if mKd h3 v4 = 4 then (fX4_copy v4 v5 h3).bind (fun ((_u, h6) : Unit × Mem) =>
   (gR 6 h6 a0 2).bind fun v7 =>
   (gR 6 h6 a1 2).bind fun v8 =>
   if mKd h6 v7 = 4 then (fX4_copy v7 v8 h6).bind (fun ((_u, h9) : Unit × Mem) =>
    (gR 6 h9 a0 3).bind fun v10 =>
    (gR 6 h9 a1 3).bind fun v11 =>
    if mKd h9 v10 = 4 then (fX4_copy v10 v11 h9).bind (fun ((_u, h12) : Unit × Mem) =>
     some ((), h12)) else none) else none) else none) else none
noncomputable def fX9_image (a0 : Nat) (h0 : Mem) : Option (Int32 × Mem) :=
 (gR 9 h0 a0 1).bind fun v1 =>
 (gR 9 h0 a0 0).bind fun v2 =>
 if mKd h0 v1 = 6 then (fX6_copy v1 v2 h0).bind (fun ((_u, h3) : Unit × Mem) =>
  (pI 9 h3 a0 2 1).bind fun h4 =>
  (gR 9 h4 a0 0).bind fun v5 =>
  (gR 6 h4 v5 0).bind fun v6 =>
  (gR 1 h4 v6 0).bind fun v7 =>
  (gI 2 h4 v7 0).bind fun v8 =>
  some ((v8 : Int32), h4)) else none
noncomputable def fX9_undo (a0 : Nat) (h0 : Mem) : Option (Int32 × Mem) :=
 (gI 9 h0 a0 2).bind fun v1 =>
 if v1 = 0 then
  some (((-3) : Int32), h0)
 else
  (gR 9 h0 a0 0).bind fun v2 =>
  (gR 9 h0 a0 1).bind fun v3 =>
  if mKd h0 v2 = 6 then (fX6_copy v2 v3 h0).bind (fun ((_u, h4) : Unit × Mem) =>
   (gR 9 h4 a0 0).bind fun v5 =>
   (gR 6 h4 v5 0).bind fun v6 =>
   (gR 1 h4 v6 0).bind fun v7 =>
   (gI 2 h4 v7 0).bind fun v8 =>
   some ((v8 : Int32), h4)) else none
noncomputable def fX9_count (a0 : Nat) (a1 : Int32) (h0 : Mem) : Option (Int32 × Mem) :=
 if a1 = 0 then
  (gR 9 h0 a0 0).bind fun v2 =>
  (gR 6 h0 v2 1).bind fun v3 =>
  (gI 4 h0 v3 0).bind fun v4 =>
  some ((v4 : Int32), h0)
 else if a1 = 1 then
  (gR 9 h0 a0 0).bind fun v6 =>
  (gR 6 h0 v6 2).bind fun v7 =>
  (gI 4 h0 v7 0).bind fun v8 =>
  some ((v8 : Int32), h0)
 else if a1 = 2 then
  (gR 9 h0 a0 0).bind fun v10 =>
  (gR 6 h0 v10 3).bind fun v11 =>
  (gI 4 h0 v11 0).bind fun v12 =>
  some ((v12 : Int32), h0)
 else if a1 = 3 then
  (gR 9 h0 a0 7).bind fun v14 =>
  (gI 5 h0 v14 0).bind fun v15 =>
  some ((v15 : Int32), h0)
 else 
  some (((-2) : Int32), h0)
noncomputable def fX7_become (a0 : Nat) (a1 : Int32) (a2 : Int32) (h0 : Mem) : Option (Unit × Mem) :=
 (pI 7 h0 a0 0 a1).bind fun h1 =>
 (gR 7 h1 a0 1).bind fun v2 =>
 (aLn h1 v2).bind fun v3 =>
 (fJ9_min_7cf53 a2 v3 h1).bind (fun ((v5, h4) : Int32 × Mem) =>
  (fJ9_max_7cf53 0 v5 h4).bind (fun ((v7, h6) : Int32 × Mem) =>
   (pI 7 h6 a0 2 v7).bind fun h8 =>
   (gR 7 h8 a0 1).bind fun v9 =>
   (fJ7_fill_d0a16 v9 0 h8).bind (fun ((_u, h10) : Unit × Mem) =>
    some ((), h10))))
noncomputable def fX9_tape (a0 : Nat) (a1 : Int32) (a2 : Int32) (a3 : Int32) (h0 : Mem) : Option (Int32 × Mem) :=
 if mKd h0 a0 = 9 then (fX9_tapeAt a0 a1 h0).bind (fun ((v2, h1) : Nat × Mem) => if v2 = 0 then
  some (((-1) : Int32), h1)
  else
  if a2 = (-1) then
   if mKd h1 v2 = 7 then (fX7_become v2 (-1) 0 h1).bind (fun ((_u, h3) : Unit × Mem) =>
    some ((1 : Int32), h3)) else none
  else
   (fX9_between a2 0 4 h1).bind (fun ((v5, h4) : Int32 × Mem) =>
    if v5 = 0 then
     some (((-2) : Int32), h4)
    else
     if a3 ≤ 60 then
      if 0 ≤ a3 then
       if mKd h4 v2 = 7 then (fX7_become v2 a2 a3 h4).bind (fun ((_u, h6) : Unit × Mem) =>
        some ((1 : Int32), h6)) else none
      else
       some (((-14) : Int32), h4)
     else
      some (((-2) : Int32), h4))) else none
noncomputable def fX7_lowestBits (a0 : Nat) (a1 : Int64) (h0 : Mem) : Option (Int64 × Mem) :=
 (gI 7 h0 a0 0).bind fun v1 =>
 if v1 = 0 then
  some ((a1.toInt32.toInt8.toInt32.toInt64 : Int64), h0)
 else if v1 = 1 then
  some ((a1.toInt32.toInt16.toInt32.toInt64 : Int64), h0)
 else if v1 = 2 then
  some ((a1.toInt32.toInt64 : Int64), h0)
 else if v1 = 3 then
  some ((a1 : Int64), h0)
 else if v1 = 4 then
  if (lg_cmp a1 0) = 0 then
   some ((0 : Int64), h0)
  else
   some ((1 : Int64), h0)
 else 
  some ((a1 : Int64), h0)
noncomputable def fX7_set (a0 : Nat) (a1 : Int32) (a2 : Int64) (h0 : Mem) : Option (Unit × Mem) :=
 if mKd h0 a0 = 7 then (fX7_has a0 a1 h0).bind (fun ((v2, h1) : Int32 × Mem) =>
  if v2 = 0 then
   some ((), h1)
  else
   (gR 7 h1 a0 1).bind fun v3 =>
   if mKd h1 a0 = 7 then (fX7_lowestBits a0 a2 h1).bind (fun ((v5, h4) : Int64 × Mem) =>
    (yJ h4 v3 a1 v5).bind fun h6 =>
    some ((), h6)) else none) else none
noncomputable def fX9_item (a0 : Nat) (a1 : Int32) (a2 : Int32) (a3 : Int64) (h0 : Mem) : Option (Int32 × Mem) :=
 if mKd h0 a0 = 9 then (fX9_tapeAt a0 a1 h0).bind (fun ((v2, h1) : Nat × Mem) => if v2 = 0 then
  some (((-1) : Int32), h1)
  else
  if mKd h1 v2 = 7 then (fX7_holdsNothing v2 h1).bind (fun ((v4, h3) : Int32 × Mem) =>
   if v4 = 0 then
    if mKd h3 v2 = 7 then (fX7_has v2 a2 h3).bind (fun ((v6, h5) : Int32 × Mem) =>
     if v6 = 0 then
      some (((-13) : Int32), h5)
     else
      if mKd h5 v2 = 7 then (fX7_set v2 a2 a3 h5).bind (fun ((_u, h7) : Unit × Mem) =>
       some ((1 : Int32), h7)) else none) else none
   else
    some (((-11) : Int32), h3)) else none) else none
noncomputable def fX9_peek (a0 : Nat) (a1 : Int32) (a2 : Int32) (h0 : Mem) : Option (Int64 × Mem) :=
 if mKd h0 a0 = 9 then (fX9_tapeAt a0 a1 h0).bind (fun ((v2, h1) : Nat × Mem) => if v2 = 0 then
  some (((-9223372036854775808) : Int64), h1)
  else
  if mKd h1 v2 = 7 then (fX7_has v2 a2 h1).bind (fun ((v4, h3) : Int32 × Mem) =>
   if v4 = 0 then
    some (((-9223372036854775808) : Int64), h3)
   else
    if mKd h3 v2 = 7 then (fX7_get v2 a2 h3).bind (fun ((v6, h5) : Int64 × Mem) =>
     some ((v6 : Int64), h5)) else none) else none) else none
noncomputable def fX7_hasAll (a0 : Nat) (a1 : Int32) (a2 : Int32) (h0 : Mem) : Option (Int32 × Mem) :=
 if a1 < 0 then
  some ((0 : Int32), h0)
 else
  if a2 < 0 then
   some ((0 : Int32), h0)
  else
   (gI 7 h0 a0 2).bind fun v1 =>
   if (v1 - a2) < a1 then
    some ((0 : Int32), h0)
   else
    some ((1 : Int32), h0)
noncomputable def fX9_shift (a0 : Nat) (a1 : Int32) (a2 : Int32) (a3 : Int32) (a4 : Int32) (a5 : Int32) (h0 : Mem) : Option (Int32 × Mem) :=
 if mKd h0 a0 = 9 then (fX9_tapeAt a0 a1 h0).bind (fun ((v2, h1) : Nat × Mem) => if v2 = 0 then
  if mKd h1 a0 = 9 then (fX9_tapeAt a0 a3 h1).bind (fun ((v4, h3) : Nat × Mem) => if v4 = 0 then
   some (((-1) : Int32), h3)
   else
   some (((-1) : Int32), h3)) else none
  else
  if mKd h1 a0 = 9 then (fX9_tapeAt a0 a3 h1).bind (fun ((v6, h5) : Nat × Mem) => if v6 = 0 then
   some (((-1) : Int32), h5)
   else
   if mKd h5 v2 = 7 then (fX7_holdsNothing v2 h5).bind (fun ((v8, h7) : Int32 × Mem) =>
    if v8 = 0 then
     if mKd h7 v6 = 7 then (fX7_holdsNothing v6 h7).bind (fun ((v10, h9) : Int32 × Mem) =>
      if v10 = 0 then
       (gI 7 h9 v2 0).bind fun v11 =>
       (gI 7 h9 v6 0).bind fun v12 =>
       if v11 = v12 then
        if mKd h9 v2 = 7 then (fX7_hasAll v2 a2 a5 h9).bind (fun ((v14, h13) : Int32 × Mem) =>
         if v14 = 0 then
          some (((-13) : Int32), h13)
         else
          if mKd h13 v6 = 7 then (fX7_hasAll v6 a4 a5 h13).bind (fun ((v16, h15) : Int32 × Mem) =>
           if v16 = 0 then
            some (((-13) : Int32), h15)
           else
            (gR 7 h15 v2 1).bind fun v17 =>
            (gR 7 h15 v6 1).bind fun v18 =>
            (cpJ h15 v17 a2 v18 a4 a5).bind fun h19 =>
            some ((a5 : Int32), h19)) else none) else none
       else
        some (((-12) : Int32), h9)
      else
       some (((-11) : Int32), h9)) else none
    else
     some (((-11) : Int32), h7)) else none) else none) else none
