noncomputable def fX10_init (a0 : Nat) (h0 : Mem) : Option (Unit × Mem) :=
 (pI 10 h0 a0 0 3).bind fun h1 =>
 nwA 12 5 5 h1 fun v2 h3 =>
 (pR 10 h3 a0 1 v2).bind fun h4 =>
 (pI 10 h4 a0 2 1).bind fun h5 =>
 (pI 10 h5 a0 3 10).bind fun h6 =>
 nwA 11 12 12 h6 fun v7 h8 =>
 (pR 10 h8 a0 4 v7).bind fun h9 =>
 nwA 11 16 16 h9 fun v10 h11 =>
 (pR 10 h11 a0 6 v10).bind fun h12 =>
 nwA 11 16 16 h12 fun v13 h14 =>
 (pR 10 h14 a0 8 v13).bind fun h15 =>
 nwA 12 5 5 h15 fun v16 h17 =>
 (pR 10 h17 a0 10 v16).bind fun h18 =>
 nwA 12 5 5 h18 fun v19 h20 =>
 (pR 10 h20 a0 11 v19).bind fun h21 =>
 nwA 11 13122 13122 h21 fun v22 h23 =>
 (pR 10 h23 a0 12 v22).bind fun h24 =>
 nwA 11 2500 2500 h24 fun v25 h26 =>
 (pR 10 h26 a0 14 v25).bind fun h27 =>
 nwA 11 6561 6561 h27 fun v28 h29 =>
 (pR 10 h29 a0 16 v28).bind fun h30 =>
 nwA 11 6561 6561 h30 fun v31 h32 =>
 (pR 10 h32 a0 17 v31).bind fun h33 =>
 nwA 11 6561 6561 h33 fun v34 h35 =>
 (pR 10 h35 a0 18 v34).bind fun h36 =>
 nwA 11 6 6 h36 fun v37 h38 =>
 (yI 11 h38 v37 0 2).bind fun h39 =>
 (yI 11 h39 v37 1 3).bind fun h40 =>
 (yI 11 h40 v37 2 5).bind fun h41 =>
 (yI 11 h41 v37 3 7).bind fun h42 =>
 (yI 11 h42 v37 4 11).bind fun h43 =>
 (yI 11 h43 v37 5 13).bind fun h44 =>
 (pR 10 h44 a0 20 v37).bind fun h45 =>
 nwA 13 13 13 h45 fun v46 h47 =>
 (pR 10 h47 a0 21 v46).bind fun h48 =>
 nwA 12 5 5 h48 fun v49 h50 =>
 (pR 10 h50 a0 22 v49).bind fun h51 =>
 nwA 12 5 5 h51 fun v52 h53 =>
 (pR 10 h53 a0 23 v52).bind fun h54 =>
 nwA 11 8 8 h54 fun v55 h56 =>
 (pR 10 h56 a0 24 v55).bind fun h57 =>
 nwA 11 100 100 h57 fun v58 h59 =>
 (pR 10 h59 a0 28 v58).bind fun h60 =>
 nwA 11 36 36 h60 fun v61 h62 =>
 (pR 10 h62 a0 31 v61).bind fun h63 =>
 nwA 12 5 5 h63 fun v64 h65 =>
 (pR 10 h65 a0 32 v64).bind fun h66 =>
 nwA 11 6 6 h66 fun v67 h68 =>
 (yI 11 h68 v67 0 (-1)).bind fun h69 =>
 (yI 11 h69 v67 1 (-1)).bind fun h70 =>
 (yI 11 h70 v67 2 (-1)).bind fun h71 =>
 (yI 11 h71 v67 3 (-1)).bind fun h72 =>
 (yI 11 h72 v67 4 (-1)).bind fun h73 =>
 (yI 11 h73 v67 5 (-1)).bind fun h74 =>
 (pR 10 h74 a0 33 v67).bind fun h75 =>
 nwA 11 6 6 h75 fun v76 h77 =>
 (pR 10 h77 a0 34 v76).bind fun h78 =>
 nwA 12 360 360 h78 fun v79 h80 =>
 (pR 10 h80 a0 35 v79).bind fun h81 =>
 nwA 12 5 5 h81 fun v82 h83 =>
 (pR 10 h83 a0 37 v82).bind fun h84 =>
 nwA 11 50 50 h84 fun v85 h86 =>
 (pR 10 h86 a0 38 v85).bind fun h87 =>
 some ((), h87)
noncomputable def fX10_in (a0 : Int64) (a2 : Int64) (a4 : Int64) (h0 : Mem) : Option (Int32 × Mem) :=
 if (lg_cmp a0 a2) < 0 then
  some ((0 : Int32), h0)
 else
  if 0 < (lg_cmp a0 a4) then
   some ((0 : Int32), h0)
  else
   some ((1 : Int32), h0)
noncomputable def fX10_degree (a0 : Nat) (a1 : Int32) (h0 : Mem) : Option (Int32 × Mem) :=
 (fX10_in a1.toInt64 2 4 h0).bind (fun ((v2, h1) : Int32 × Mem) =>
  if v2 = 0 then
   some (((-2) : Int32), h1)
  else
   (gI 10 h1 a0 0).bind fun v3 =>
   (pI 10 h1 a0 0 a1).bind fun h4 =>
   lpF (fun k7 ((v5, h6) : Int32 × Mem) =>
    if 5 ≤ v5 then
     some ((v3 : Int32), h6)
    else
     (gR 10 h6 a0 1).bind fun v9 =>
     (yJ h6 v9 v5 0).bind fun h10 =>
     nm (v5 + 1 : Int32) fun v11 =>
     k7 (v11, h10)) FU (0, h4))
noncomputable def fX10_isNumber (a0 : Nat) (a1 : Int32) (h0 : Mem) : Option (Int32 × Mem) :=
 (gI 10 h0 a0 0).bind fun v1 =>
 (fX10_in a1.toInt64 0 v1.toInt64 h0).bind (fun ((v3, h2) : Int32 × Mem) =>
  if v3 = 0 ∨ v3 = 1 then some (v3, h2) else none)
noncomputable def fX10_number (a0 : Nat) (a1 : Int32) (a2 : Int32) (h0 : Mem) : Option (Int32 × Mem) :=
 if mKd h0 a0 = 10 then (fX10_isNumber a0 a1 h0).bind (fun ((v2, h1) : Int32 × Mem) =>
  if v2 = 0 then
   some (((-1) : Int32), h1)
  else
   (fX10_in a2.toInt64 (-99) 99 h1).bind (fun ((v4, h3) : Int32 × Mem) =>
    if v4 = 0 then
     some (((-2) : Int32), h3)
    else
     (gR 10 h3 a0 1).bind fun v5 =>
     (xJ h3 v5 a1).bind fun v6 =>
     nm (v6.toInt32 : Int32) fun v7 =>
     (gR 10 h3 a0 1).bind fun v8 =>
     (yJ h3 v8 a1 a2.toInt64).bind fun h9 =>
     some ((v7 + 100 : Int32), h9))) else none
noncomputable def fX10_equal (a0 : Nat) (a1 : Int32) (h0 : Mem) : Option (Int32 × Mem) :=
 (fX10_in a1.toInt64 (-9999) 9999 h0).bind (fun ((v2, h1) : Int32 × Mem) =>
  if v2 = 0 then
   some (((-2) : Int32), h1)
  else
   (gI 10 h1 a0 2).bind fun v3 =>
   (pI 10 h1 a0 2 a1).bind fun h4 =>
   some ((v3 + 10000 : Int32), h4))
noncomputable def fX10_window (a0 : Nat) (a1 : Int32) (h0 : Mem) : Option (Int32 × Mem) :=
 (fX10_in a1.toInt64 1 40 h0).bind (fun ((v2, h1) : Int32 × Mem) =>
  if v2 = 0 then
   some (((-2) : Int32), h1)
  else
   (gI 10 h1 a0 3).bind fun v3 =>
   (pI 10 h1 a0 3 a1).bind fun h4 =>
   some ((v3 : Int32), h4))
noncomputable def fX10_multiplies (a0 : Nat) (a1 : Int64) (a3 : Int64) (h0 : Mem) : Option (Unit × Mem) :=
 lpF (fun k3 ((v1, h2) : Int32 × Mem) =>
  if v1 < 0 then
   some ((), h2)
  else
   (gR 10 h2 a0 11).bind fun v5 =>
   (gR 10 h2 a0 11).bind fun v6 =>
   (xJ h2 v6 v1).bind fun v7 =>
   if v1 ≤ 0 then
    (yJ h2 v5 v1 ((a1 * v7) + 0)).bind fun h12 =>
    nm (v1 + (-1) : Int32) fun v13 =>
    k3 (v13, h12)
   else
    (gR 10 h2 a0 11).bind fun v8 =>
    (xJ h2 v8 (v1 - 1)).bind fun v9 =>
    (yJ h2 v5 v1 ((a1 * v7) + (a3 * v9))).bind fun h10 =>
    nm (v1 + (-1) : Int32) fun v11 =>
    k3 (v11, h10)) FU (4, h0)
noncomputable def fX10_turns (a0 : Nat) (a1 : Int64) (a3 : Int64) (a5 : Int64) (a7 : Int64) (h0 : Mem) : Option (Unit × Mem) :=
 lpF (fun k3 ((v1, h2) : Int32 × Mem) =>
  if 5 ≤ v1 then
   lpF (fun k10 ((v8, h9) : Int32 × Mem) =>
    (gI 10 h9 a0 0).bind fun v12 =>
    if v12 < v8 then
     some ((), h9)
    else
     lpF (fun k15 ((v13, h14) : Int32 × Mem) =>
      if 5 ≤ v13 then
       lpF (fun k27 ((v25, h26) : Int32 × Mem) =>
        (gI 10 h26 a0 0).bind fun v29 =>
        if v29 ≤ v25 then
         lpF (fun k43 ((v41, h42) : Int32 × Mem) =>
          (gI 10 h42 a0 0).bind fun v45 =>
          if v45 < v41 then
           nm (v8 + 1 : Int32) fun v52 =>
           k10 (v52, h42)
          else
           (gR 10 h42 a0 10).bind fun v46 =>
           (xJ h42 v46 v41).bind fun v47 =>
           (gR 10 h42 a0 11).bind fun v48 =>
           (xJ h42 v48 v41).bind fun v49 =>
           (yJ h42 v46 v41 (v47 + v49)).bind fun h50 =>
           nm (v41 + 1 : Int32) fun v51 =>
           k43 (v51, h50)) FU (0, h26)
        else
         (gI 10 h26 a0 0).bind fun v30 =>
         jn (fun (v31 : Int64) =>
          (gI 10 h26 a0 0).bind fun v34 =>
          if (v34 - v8) ≤ v25 then
           if mKd h26 a0 = 10 then (fX10_multiplies a0 v31 a7 h26).bind (fun ((_u, h37) : Unit × Mem) =>
            nm (v25 + 1 : Int32) fun v38 =>
            k27 (v38, h37)) else none
          else
           if mKd h26 a0 = 10 then (fX10_multiplies a0 v31 a3 h26).bind (fun ((_u, h35) : Unit × Mem) =>
            nm (v25 + 1 : Int32) fun v36 =>
            k27 (v36, h35)) else none) (fun k32 =>
          if (v30 - v8) ≤ v25 then
           k32 a5
          else
           k32 a1)) FU (0, h14)
      else
       (gR 10 h14 a0 11).bind fun v17 =>
       if v13 = 0 then
        (gR 10 h14 a0 1).bind fun v18 =>
        (xJ h14 v18 v8).bind fun v19 =>
        (yJ h14 v17 v13 v19).bind fun h20 =>
        nm (v13 + 1 : Int32) fun v21 =>
        k15 (v21, h20)
       else
        (yJ h14 v17 v13 0).bind fun h22 =>
        nm (v13 + 1 : Int32) fun v23 =>
        k15 (v23, h22)) FU (0, h9)) FU (0, h2)
  else
   (gR 10 h2 a0 10).bind fun v5 =>
   (yJ h2 v5 v1 0).bind fun h6 =>
   nm (v1 + 1 : Int32) fun v7 =>
   k3 (v7, h6)) FU (0, h0)
noncomputable def fX10_becomesTurned (a0 : Nat) (h0 : Mem) : Option (Int32 × Mem) :=
 lpF (fun k3 ((v1, h2) : Int32 × Mem) =>
  (gI 10 h2 a0 0).bind fun v5 =>
  if v5 < v1 then
   lpF (fun k14 ((v12, h13) : Int32 × Mem) =>
    (gI 10 h13 a0 0).bind fun v16 =>
    if v16 < v12 then
     some ((1 : Int32), h13)
    else
     (gR 10 h13 a0 1).bind fun v17 =>
     (gR 10 h13 a0 10).bind fun v18 =>
     (xJ h13 v18 v12).bind fun v19 =>
     (yJ h13 v17 v12 v19).bind fun h20 =>
     nm (v12 + 1 : Int32) fun v21 =>
     k14 (v21, h20)) FU (0, h2)
  else
   (gR 10 h2 a0 10).bind fun v6 =>
   (xJ h2 v6 v1).bind fun v7 =>
   (fX10_in v7 (-99) 99 h2).bind (fun ((v9, h8) : Int32 × Mem) =>
    if v9 = 0 then
     some ((0 : Int32), h8)
    else
     nm (v1 + 1 : Int32) fun v10 =>
     k3 (v10, h8))) FU (0, h0)
noncomputable def fX10_moves (a0 : Nat) (a1 : Int32) (h0 : Mem) : Option (Int32 × Mem) :=
 if a1 = 0 then
  if mKd h0 a0 = 10 then (fX10_turns a0 1 1 0 1 h0).bind (fun ((_u, h2) : Unit × Mem) =>
   if mKd h2 a0 = 10 then (fX10_becomesTurned a0 h2).bind (fun ((v4, h3) : Int32 × Mem) =>
    if v4 = 0 ∨ v4 = 1 then some (v4, h3) else none) else none) else none
 else if a1 = 1 then
  if mKd h0 a0 = 10 then (fX10_turns a0 1 (-1) 0 1 h0).bind (fun ((_u, h6) : Unit × Mem) =>
   if mKd h6 a0 = 10 then (fX10_becomesTurned a0 h6).bind (fun ((v8, h7) : Int32 × Mem) =>
    if v8 = 0 ∨ v8 = 1 then some (v8, h7) else none) else none) else none
 else if a1 = 2 then
  if mKd h0 a0 = 10 then (fX10_turns a0 0 1 1 0 h0).bind (fun ((_u, h10) : Unit × Mem) =>
   if mKd h10 a0 = 10 then (fX10_becomesTurned a0 h10).bind (fun ((v12, h11) : Int32 × Mem) =>
    if v12 = 0 ∨ v12 = 1 then some (v12, h11) else none) else none) else none
 else if a1 = 3 then
  if mKd h0 a0 = 10 then (fX10_turns a0 (-1) 0 0 1 h0).bind (fun ((_u, h14) : Unit × Mem) =>
   if mKd h14 a0 = 10 then (fX10_becomesTurned a0 h14).bind (fun ((v16, h15) : Int32 × Mem) =>
    if v16 = 0 ∨ v16 = 1 then some (v16, h15) else none) else none) else none
 else 
  lpF (fun k19 ((v17, h18) : Int32 × Mem) =>
   (gI 10 h18 a0 0).bind fun v21 =>
   if v21 < v17 then
    if mKd h18 a0 = 10 then (fX10_becomesTurned a0 h18).bind (fun ((v28, h27) : Int32 × Mem) =>
     if v28 = 0 ∨ v28 = 1 then some (v28, h27) else none) else none
   else
    (gR 10 h18 a0 10).bind fun v22 =>
    (gR 10 h18 a0 1).bind fun v23 =>
    (xJ h18 v23 v17).bind fun v24 =>
    (yJ h18 v22 v17 (-v24)).bind fun h25 =>
    nm (v17 + 1 : Int32) fun v26 =>
    k19 (v26, h25)) FU (0, h0)
noncomputable def fX10_move (a0 : Nat) (a1 : Int32) (h0 : Mem) : Option (Int32 × Mem) :=
 (fX10_in a1.toInt64 0 4 h0).bind (fun ((v2, h1) : Int32 × Mem) =>
  if v2 = 0 then
   some (((-1) : Int32), h1)
  else
   if mKd h1 a0 = 10 then (fX10_moves a0 a1 h1).bind (fun ((v4, h3) : Int32 × Mem) =>
    if v4 = 0 then
     some (((-3) : Int32), h3)
    else
     some ((1 : Int32), h3)) else none)
noncomputable def fX10_turn (a0 : Nat) (a1 : Int32) (a2 : Int32) (a3 : Int32) (a4 : Int32) (h0 : Mem) : Option (Int32 × Mem) :=
 (fX10_in a1.toInt64 (-9) 9 h0).bind (fun ((v2, h1) : Int32 × Mem) =>
  if v2 = 0 then
   some (((-2) : Int32), h1)
  else
   (fX10_in a2.toInt64 (-9) 9 h1).bind (fun ((v4, h3) : Int32 × Mem) =>
    if v4 = 0 then
     some (((-2) : Int32), h3)
    else
     (fX10_in a3.toInt64 (-9) 9 h3).bind (fun ((v6, h5) : Int32 × Mem) =>
      if v6 = 0 then
       some (((-2) : Int32), h5)
      else
       (fX10_in a4.toInt64 (-9) 9 h5).bind (fun ((v8, h7) : Int32 × Mem) =>
        if v8 = 0 then
         some (((-2) : Int32), h7)
        else
         if mKd h7 a0 = 10 then (fX10_turns a0 a1.toInt64 a2.toInt64 a3.toInt64 a4.toInt64 h7).bind (fun ((_u, h9) : Unit × Mem) =>
          if mKd h9 a0 = 10 then (fX10_becomesTurned a0 h9).bind (fun ((v11, h10) : Int32 × Mem) =>
           if v11 = 0 then
            some (((-3) : Int32), h10)
           else
            some ((1 : Int32), h10)) else none) else none))))
noncomputable def fX10_feed (a0 : Nat) (a1 : Int32) (h0 : Mem) : Option (Int32 × Mem) :=
 (fX10_in a1.toInt64 0 127 h0).bind (fun ((v2, h1) : Int32 × Mem) =>
  if v2 = 0 then
   some (((-2) : Int32), h1)
  else
   (gI 10 h1 a0 29).bind fun v3 =>
   if v3 = 100 then
    some (((-4) : Int32), h1)
   else
    (gR 10 h1 a0 28).bind fun v4 =>
    (gI 10 h1 a0 29).bind fun v5 =>
    (yI 11 h1 v4 v5 a1).bind fun h6 =>
    (gI 10 h6 a0 29).bind fun v7 =>
    (pI 10 h6 a0 29 (v7 + 1)).bind fun h8 =>
    (gI 10 h8 a0 29).bind fun v9 =>
    some ((v9 : Int32), h8))
noncomputable def fX10_here (a0 : Nat) (h0 : Mem) : Option (Int32 × Mem) :=
 (gI 10 h0 a0 30).bind fun v1 =>
 (gI 10 h0 a0 29).bind fun v2 =>
 if v2 ≤ v1 then
  some (((-1) : Int32), h0)
 else
  (gR 10 h0 a0 28).bind fun v3 =>
  (gI 10 h0 a0 30).bind fun v4 =>
  (xI 11 h0 v3 v4).bind fun v5 =>
  some ((v5 : Int32), h0)
noncomputable def fX10_isDigit (a0 : Nat) (h0 : Mem) : Option (Int32 × Mem) :=
 if mKd h0 a0 = 10 then (fX10_here a0 h0).bind (fun ((v2, h1) : Int32 × Mem) =>
  (fX10_in v2.toInt64 48 57 h1).bind (fun ((v4, h3) : Int32 × Mem) =>
   if v4 = 0 ∨ v4 = 1 then some (v4, h3) else none)) else none
noncomputable def fX10_readsDigit (a0 : Nat) (a1 : Int32) (h0 : Mem) : Option (Int32 × Mem) :=
 if mKd h0 a0 = 10 then (fX10_isDigit a0 h0).bind (fun ((v2, h1) : Int32 × Mem) =>
  if v2 = 0 then
   some ((0 : Int32), h1)
  else
   (gR 10 h1 a0 31).bind fun v3 =>
   if mKd h1 a0 = 10 then (fX10_here a0 h1).bind (fun ((v5, h4) : Int32 × Mem) =>
    (yI 11 h4 v3 a1 (v5 - 48)).bind fun h6 =>
    (gI 10 h6 a0 30).bind fun v7 =>
    (pI 10 h6 a0 30 (v7 + 1)).bind fun h8 =>
    some ((1 : Int32), h8)) else none) else none
noncomputable def fX10_readsNumber (a0 : Nat) (a1 : Int32) (h0 : Mem) : Option (Int32 × Mem) :=
 if mKd h0 a0 = 10 then (fX10_here a0 h0).bind (fun ((v2, h1) : Int32 × Mem) =>
  jn (fun (v3 : Int32) =>
   (gI 10 h1 a0 30).bind fun v6 =>
   jn (fun (v7 : Int32) =>
    (pI 10 h1 a0 30 (v6 + v7)).bind fun h10 =>
    if mKd h10 a0 = 10 then (fX10_isDigit a0 h10).bind (fun ((v12, h11) : Int32 × Mem) =>
     if v12 = 0 then
      some ((0 : Int32), h11)
     else
      lpF (fun k16 ((v13, v14, h15) : Int32 × Int32 × Mem) =>
       jn (fun (h18 : Mem) =>
        (gR 10 h18 a0 31).bind fun v21 =>
        if v3 = 0 then
         (yI 11 h18 v21 a1 v13).bind fun h23 =>
         some ((1 : Int32), h23)
        else
         (yI 11 h18 v21 a1 (-v13)).bind fun h22 =>
         some ((1 : Int32), h22)) (fun k19 =>
        if 4 ≤ v14 then
         k19 h15
        else
         if mKd h15 a0 = 10 then (fX10_isDigit a0 h15).bind (fun ((v26, h25) : Int32 × Mem) =>
          if v26 = 0 then
           k19 h25
          else
           if mKd h25 a0 = 10 then (fX10_here a0 h25).bind (fun ((v28, h27) : Int32 × Mem) =>
            nm (((10 * v13) + v28) - 48 : Int32) fun v29 =>
            (gI 10 h27 a0 30).bind fun v30 =>
            (pI 10 h27 a0 30 (v30 + 1)).bind fun h31 =>
            nm (v14 + 1 : Int32) fun v32 =>
            k16 (v29, v32, h31)) else none) else none)) FU (0, 0, h11)) else none) (fun k8 =>
    if v3 = 0 then
     k8 0
    else
     k8 1)) (fun k4 =>
   if v2 = 45 then
    k4 1
   else
    k4 0)) else none
noncomputable def fX10_readsClause (a0 : Nat) (a1 : Int32) (h0 : Mem) : Option (Int32 × Mem) :=
 if mKd h0 a0 = 10 then (fX10_here a0 h0).bind (fun ((v2, h1) : Int32 × Mem) =>
  jn (fun (_ : Unit) =>
   (gR 10 h1 a0 31).bind fun v5 =>
   (yI 11 h1 v5 (3 * a1) v2).bind fun h6 =>
   (gI 10 h6 a0 30).bind fun v7 =>
   (pI 10 h6 a0 30 (v7 + 1)).bind fun h8 =>
   jn (fun (h9 : Mem) =>
    if v2 = 100 then
     some ((1 : Int32), h9)
    else
     if v2 = 116 then
      some ((1 : Int32), h9)
     else
      if mKd h9 a0 = 10 then (fX10_readsNumber a0 ((3 * a1) + 2) h9).bind (fun ((v13, h12) : Int32 × Mem) =>
       if v13 = 0 then
        some ((0 : Int32), h12)
       else
        some ((1 : Int32), h12)) else none) (fun k10 =>
    if v2 = 61 then
     k10 h8
    else
     if v2 = 119 then
      k10 h8
     else
      if mKd h8 a0 = 10 then (fX10_readsDigit a0 ((3 * a1) + 1) h8).bind (fun ((v18, h17) : Int32 × Mem) =>
       if v18 = 0 then
        some ((0 : Int32), h17)
       else
        k10 h17) else none)) (fun k3 =>
   if v2 = 100 then
    k3 ()
   else
    if v2 = 97 then
     k3 ()
    else
     if v2 = 61 then
      k3 ()
     else
      if v2 = 119 then
       k3 ()
      else
       if v2 = 116 then
        k3 ()
       else
        some ((0 : Int32), h1))) else none
noncomputable def fX10_does (a0 : Nat) (a1 : Int32) (h0 : Mem) : Option (Int32 × Mem) :=
 (gR 10 h0 a0 31).bind fun v1 =>
 (xI 11 h0 v1 ((3 * a1) + 1)).bind fun v2 =>
 (gR 10 h0 a0 31).bind fun v3 =>
 (xI 11 h0 v3 ((3 * a1) + 2)).bind fun v4 =>
 (gR 10 h0 a0 31).bind fun v5 =>
 (xI 11 h0 v5 (3 * a1)).bind fun v6 =>
 if v6 = 61 then
  if mKd h0 a0 = 10 then (fX10_equal a0 v4 h0).bind (fun ((v9, h8) : Int32 × Mem) =>
   some ((v9 : Int32), h8)) else none
 else if v6 = 97 then
  if mKd h0 a0 = 10 then (fX10_number a0 v2 v4 h0).bind (fun ((v12, h11) : Int32 × Mem) =>
   some ((v12 : Int32), h11)) else none
 else if v6 = 100 then
  if mKd h0 a0 = 10 then (fX10_degree a0 v2 h0).bind (fun ((v15, h14) : Int32 × Mem) =>
   some ((v15 : Int32), h14)) else none
 else if v6 = 119 then
  if mKd h0 a0 = 10 then (fX10_window a0 v4 h0).bind (fun ((v18, h17) : Int32 × Mem) =>
   some ((v18 : Int32), h17)) else none
 else 
  if mKd h0 a0 = 10 then (fX10_move a0 v2 h0).bind (fun ((v20, h19) : Int32 × Mem) =>
   some ((v20 : Int32), h19)) else none
noncomputable def fX10_read (a0 : Nat) (h0 : Mem) : Option (Int32 × Mem) :=
 (pI 10 h0 a0 30 0).bind fun h1 =>
 if mKd h1 a0 = 10 then (fX10_readsClause a0 0 h1).bind (fun ((v3, h2) : Int32 × Mem) =>
  lpF (fun k7 ((v4, v5, h6) : Int32 × Int32 × Mem) =>
   jn (fun (h9 : Mem) =>
    (gI 10 h9 a0 30).bind fun v12 =>
    (gI 10 h9 a0 29).bind fun v13 =>
    jn (fun (v14 : Int32) =>
     nm (v5 &&& v14 : Int32) fun v17 =>
     (pI 10 h9 a0 29 0).bind fun h18 =>
     if v17 = 0 then
      (gI 10 h18 a0 30).bind fun v19 =>
      some (((-10) - v19 : Int32), h18)
     else
      lpF (fun k23 ((v20, v21, h22) : Int32 × Int32 × Mem) =>
       if v4 < v21 then
        some ((v20 : Int32), h22)
       else
        if mKd h22 a0 = 10 then (fX10_does a0 v21 h22).bind (fun ((v26, h25) : Int32 × Mem) =>
         if v26 < 0 then
          nm (v20 + 0 : Int32) fun v29 =>
          nm (v21 + 1 : Int32) fun v30 =>
          k23 (v29, v30, h25)
         else
          nm (v20 + 1 : Int32) fun v27 =>
          nm (v21 + 1 : Int32) fun v28 =>
          k23 (v27, v28, h25)) else none) FU (0, 0, h18)) (fun k15 =>
     if v12 = v13 then
      k15 1
     else
      k15 0)) (fun k10 =>
    if v5 = 0 then
     k10 h6
    else
     if mKd h6 a0 = 10 then (fX10_here a0 h6).bind (fun ((v36, h35) : Int32 × Mem) =>
      if v36 = 59 then
       if 12 ≤ (v4 + 1) then
        k10 h35
       else
        (gI 10 h35 a0 30).bind fun v37 =>
        (pI 10 h35 a0 30 (v37 + 1)).bind fun h38 =>
        nm (v4 + 1 : Int32) fun v39 =>
        if mKd h38 a0 = 10 then (fX10_readsClause a0 v39 h38).bind (fun ((v41, h40) : Int32 × Mem) =>
         k7 (v39, v41, h40)) else none
      else
       k10 h35) else none)) FU (0, v3, h2)) else none
noncomputable def fX10_of (a0 : Nat) (a1 : Int32) (h0 : Mem) : Option (Int32 × Mem) :=
 if mKd h0 a0 = 10 then (fX10_isNumber a0 a1 h0).bind (fun ((v2, h1) : Int32 × Mem) =>
  if v2 = 0 then
   some (((-1) : Int32), h1)
  else
   (gR 10 h1 a0 1).bind fun v3 =>
   (xJ h1 v3 a1).bind fun v4 =>
   some ((v4.toInt32 + 100 : Int32), h1)) else none
noncomputable def fX10_power (a0 : Int64) (a2 : Int32) (h0 : Mem) : Option (Int64 × Mem) :=
 lpF (fun k3 ((v1, v2) : Int64 × Int32) =>
  if a2 ≤ v2 then
   some ((v1 : Int64), h0)
  else
   nm (v1 * a0 : Int64) fun v5 =>
   nm (v2 + 1 : Int32) fun v6 =>
   k3 (v5, v6)) FU (1, 0)
noncomputable def fX10_valueAt (a0 : Nat) (a1 : Int64) (a3 : Int64) (h0 : Mem) : Option (Int64 × Mem) :=
 lpF (fun k4 ((v1, v2, h3) : Int64 × Int32 × Mem) =>
  (gI 10 h3 a0 0).bind fun v6 =>
  if v6 < v2 then
   some ((v1 : Int64), h3)
  else
   (gR 10 h3 a0 1).bind fun v7 =>
   (xJ h3 v7 v2).bind fun v8 =>
   (gI 10 h3 a0 0).bind fun v9 =>
   (fX10_power a1 (v9 - v2) h3).bind (fun ((v11, h10) : Int64 × Mem) =>
    (fX10_power a3 v2 h10).bind (fun ((v13, h12) : Int64 × Mem) =>
     nm (v1 + ((v8 * v11) * v13) : Int64) fun v14 =>
     nm (v2 + 1 : Int32) fun v15 =>
     k4 (v14, v15, h12)))) FU (0, 0, h0)
noncomputable def fX10_tellsAnswers (a0 : Nat) (h0 : Mem) : Option (Unit × Mem) :=
 (pI 10 h0 a0 13 0).bind fun h1 =>
 (gI 10 h1 a0 3).bind fun v2 =>
 nm (-v2 : Int32) fun v3 =>
 lpF (fun k6 ((v4, h5) : Int32 × Mem) =>
  (gI 10 h5 a0 3).bind fun v8 =>
  if v8 < v4 then
   some ((), h5)
  else
   (gI 10 h5 a0 3).bind fun v9 =>
   nm (-v9 : Int32) fun v10 =>
   lpF (fun k13 ((v11, h12) : Int32 × Mem) =>
    (gI 10 h12 a0 3).bind fun v15 =>
    if v15 < v11 then
     nm (v4 + 1 : Int32) fun v30 =>
     k6 (v30, h12)
    else
     if mKd h12 a0 = 10 then (fX10_valueAt a0 v4.toInt64 v11.toInt64 h12).bind (fun ((v17, h16) : Int64 × Mem) =>
      (gI 10 h16 a0 2).bind fun v18 =>
      if (lg_cmp v17 v18.toInt64) = 0 then
       (gR 10 h16 a0 12).bind fun v19 =>
       (gI 10 h16 a0 13).bind fun v20 =>
       (yI 11 h16 v19 (2 * v20) v4).bind fun h21 =>
       (gR 10 h21 a0 12).bind fun v22 =>
       (gI 10 h21 a0 13).bind fun v23 =>
       (yI 11 h21 v22 ((2 * v23) + 1) v11).bind fun h24 =>
       (gI 10 h24 a0 13).bind fun v25 =>
       (pI 10 h24 a0 13 (v25 + 1)).bind fun h26 =>
       nm (v11 + 1 : Int32) fun v27 =>
       k13 (v27, h26)
      else
       nm (v11 + 1 : Int32) fun v28 =>
       k13 (v28, h16)) else none) FU (v10, h5)) FU (v3, h1)
noncomputable def fX10_tellsUnits (a0 : Nat) (h0 : Mem) : Option (Unit × Mem) :=
 (pI 10 h0 a0 15 0).bind fun h1 =>
 lpF (fun k4 ((v2, h3) : Int32 × Mem) =>
  if 625 ≤ v2 then
   some ((), h3)
  else
   if (125 : Int32) = 0 then none else
   nm ((v2 / 125) - 2 : Int32) fun v6 =>
   if (25 : Int32) = 0 then none else
   if (5 : Int32) = 0 then none else
   nm (((v2 / 25) - (v2 / 25) / 5 * 5) - 2 : Int32) fun v7 =>
   if (5 : Int32) = 0 then none else
   if (5 : Int32) = 0 then none else
   nm (((v2 / 5) - (v2 / 5) / 5 * 5) - 2 : Int32) fun v8 =>
   if (5 : Int32) = 0 then none else
   nm ((v2 - v2 / 5 * 5) - 2 : Int32) fun v9 =>
   jn (fun (_ : Unit) =>
    if mKd h3 a0 = 10 then (fX10_turns a0 v6.toInt64 v7.toInt64 v8.toInt64 v9.toInt64 h3).bind (fun ((_u, h12) : Unit × Mem) =>
     lpF (fun k15 ((v13, v14) : Int32 × Int32) =>
      (gI 10 h12 a0 0).bind fun v17 =>
      if v17 < v14 then
       if v13 = 0 then
        nm (v2 + 1 : Int32) fun v42 =>
        k4 (v42, h12)
       else
        (gR 10 h12 a0 14).bind fun v27 =>
        (gI 10 h12 a0 15).bind fun v28 =>
        (yI 11 h12 v27 (4 * v28) v6).bind fun h29 =>
        (gR 10 h29 a0 14).bind fun v30 =>
        (gI 10 h29 a0 15).bind fun v31 =>
        (yI 11 h29 v30 ((4 * v31) + 1) v7).bind fun h32 =>
        (gR 10 h32 a0 14).bind fun v33 =>
        (gI 10 h32 a0 15).bind fun v34 =>
        (yI 11 h32 v33 ((4 * v34) + 2) v8).bind fun h35 =>
        (gR 10 h35 a0 14).bind fun v36 =>
        (gI 10 h35 a0 15).bind fun v37 =>
        (yI 11 h35 v36 ((4 * v37) + 3) v9).bind fun h38 =>
        (gI 10 h38 a0 15).bind fun v39 =>
        (pI 10 h38 a0 15 (v39 + 1)).bind fun h40 =>
        nm (v2 + 1 : Int32) fun v41 =>
        k4 (v41, h40)
      else
       (gR 10 h12 a0 10).bind fun v18 =>
       (xJ h12 v18 v14).bind fun v19 =>
       (gR 10 h12 a0 1).bind fun v20 =>
       (xJ h12 v20 v14).bind fun v21 =>
       if (lg_cmp v19 v21) = 0 then
        nm (v13 &&& 1 : Int32) fun v22 =>
        nm (v14 + 1 : Int32) fun v23 =>
        k15 (v22, v23)
       else
        nm (v13 &&& 0 : Int32) fun v24 =>
        nm (v14 + 1 : Int32) fun v25 =>
        k15 (v24, v25)) FU (1, 0)) else none) (fun k10 =>
    if ((v6 * v9) - (v7 * v8)) = 1 then
     k10 ()
    else
     if ((v6 * v9) - (v7 * v8)) = (-1) then
      k10 ()
     else
      nm (v2 + 1 : Int32) fun v45 =>
      k4 (v45, h3))) FU (0, h1)
noncomputable def fX10_cell (a0 : Nat) (a1 : Int32) (a2 : Int32) (h0 : Mem) : Option (Int32 × Mem) :=
 (gI 10 h0 a0 3).bind fun v1 =>
 (gI 10 h0 a0 3).bind fun v2 =>
 (gI 10 h0 a0 3).bind fun v3 =>
 some (((((a1 + v1) * ((2 * v2) + 1)) + a2) + v3 : Int32), h0)
noncomputable def fX10_leastOf (a0 : Nat) (a1 : Int32) (h0 : Mem) : Option (Int32 × Mem) :=
 lpF (fun k2 (v1 : Int32) =>
  (gR 10 h0 a0 17).bind fun v4 =>
  (xI 11 h0 v4 v1).bind fun v5 =>
  if v5 = v1 then
   some ((v1 : Int32), h0)
  else
   (gR 10 h0 a0 17).bind fun v6 =>
   (xI 11 h0 v6 v1).bind fun v7 =>
   k2 v7) FU a1
noncomputable def fX10_links (a0 : Nat) (a1 : Int32) (a2 : Int32) (h0 : Mem) : Option (Unit × Mem) :=
 if mKd h0 a0 = 10 then (fX10_leastOf a0 a1 h0).bind (fun ((v2, h1) : Int32 × Mem) =>
  if mKd h1 a0 = 10 then (fX10_leastOf a0 a2 h1).bind (fun ((v4, h3) : Int32 × Mem) =>
   (gR 10 h3 a0 17).bind fun v5 =>
   if v2 ≤ v4 then
    if v2 ≤ v4 then
     (yI 11 h3 v5 v4 v2).bind fun h10 =>
     some ((), h10)
    else
     (yI 11 h3 v5 v4 v4).bind fun h9 =>
     some ((), h9)
   else
    if v2 ≤ v4 then
     (yI 11 h3 v5 v2 v2).bind fun h7 =>
     some ((), h7)
    else
     (yI 11 h3 v5 v2 v4).bind fun h6 =>
     some ((), h6)) else none) else none
noncomputable def fX10_tellsFamilies (a0 : Nat) (h0 : Mem) : Option (Unit × Mem) :=
 if mKd h0 a0 = 10 then (fX10_tellsAnswers a0 h0).bind (fun ((_u, h1) : Unit × Mem) =>
  if mKd h1 a0 = 10 then (fX10_tellsUnits a0 h1).bind (fun ((_u, h2) : Unit × Mem) =>
   lpF (fun k5 ((v3, h4) : Int32 × Mem) =>
    if 6561 ≤ v3 then
     lpF (fun k12 ((v10, h11) : Int32 × Mem) =>
      (gI 10 h11 a0 13).bind fun v14 =>
      if v14 ≤ v10 then
       lpF (fun k28 ((v26, h27) : Int32 × Mem) =>
        (gI 10 h27 a0 13).bind fun v30 =>
        if v30 ≤ v26 then
         (pI 10 h27 a0 19 0).bind fun h74 =>
         lpF (fun k77 ((v75, h76) : Int32 × Mem) =>
          (gI 10 h76 a0 13).bind fun v79 =>
          if v79 ≤ v75 then
           some ((), h76)
          else
           (gR 10 h76 a0 17).bind fun v80 =>
           (xI 11 h76 v80 v75).bind fun v81 =>
           if v81 = v75 then
            (gR 10 h76 a0 18).bind fun v82 =>
            (gI 10 h76 a0 19).bind fun v83 =>
            (yI 11 h76 v82 v75 v83).bind fun h84 =>
            (gI 10 h84 a0 19).bind fun v85 =>
            (pI 10 h84 a0 19 (v85 + 1)).bind fun h86 =>
            nm (v75 + 1 : Int32) fun v87 =>
            k77 (v87, h86)
           else
            (gR 10 h76 a0 18).bind fun v88 =>
            (gR 10 h76 a0 18).bind fun v89 =>
            if mKd h76 a0 = 10 then (fX10_leastOf a0 v75 h76).bind (fun ((v91, h90) : Int32 × Mem) =>
             (xI 11 h90 v89 v91).bind fun v92 =>
             (yI 11 h90 v88 v75 v92).bind fun h93 =>
             nm (v75 + 1 : Int32) fun v94 =>
             k77 (v94, h93)) else none) FU (0, h74)
        else
         lpF (fun k33 ((v31, h32) : Int32 × Mem) =>
          (gI 10 h32 a0 15).bind fun v35 =>
          if v35 ≤ v31 then
           nm (v26 + 1 : Int32) fun v72 =>
           k28 (v72, h32)
          else
           (gR 10 h32 a0 14).bind fun v36 =>
           (xI 11 h32 v36 (4 * v31)).bind fun v37 =>
           (gR 10 h32 a0 12).bind fun v38 =>
           (xI 11 h32 v38 (2 * v26)).bind fun v39 =>
           (gR 10 h32 a0 14).bind fun v40 =>
           (xI 11 h32 v40 ((4 * v31) + 1)).bind fun v41 =>
           (gR 10 h32 a0 12).bind fun v42 =>
           (xI 11 h32 v42 ((2 * v26) + 1)).bind fun v43 =>
           nm ((v37 * v39) + (v41 * v43) : Int32) fun v44 =>
           (gR 10 h32 a0 14).bind fun v45 =>
           (xI 11 h32 v45 ((4 * v31) + 2)).bind fun v46 =>
           (gR 10 h32 a0 12).bind fun v47 =>
           (xI 11 h32 v47 (2 * v26)).bind fun v48 =>
           (gR 10 h32 a0 14).bind fun v49 =>
           (xI 11 h32 v49 ((4 * v31) + 3)).bind fun v50 =>
           (gR 10 h32 a0 12).bind fun v51 =>
           (xI 11 h32 v51 ((2 * v26) + 1)).bind fun v52 =>
           nm ((v46 * v48) + (v50 * v52) : Int32) fun v53 =>
           (gI 10 h32 a0 3).bind fun v54 =>
           (gI 10 h32 a0 3).bind fun v55 =>
           (fX10_in v44.toInt64 ((-v54).toInt64) v55.toInt64 h32).bind (fun ((v57, h56) : Int32 × Mem) =>
            if v57 = 0 then
             nm (v31 + 1 : Int32) fun v70 =>
             k33 (v70, h56)
            else
             (gI 10 h56 a0 3).bind fun v58 =>
             (gI 10 h56 a0 3).bind fun v59 =>
             (fX10_in v53.toInt64 ((-v58).toInt64) v59.toInt64 h56).bind (fun ((v61, h60) : Int32 × Mem) =>
              if v61 = 0 then
               nm (v31 + 1 : Int32) fun v68 =>
               k33 (v68, h60)
              else
               (gR 10 h60 a0 16).bind fun v62 =>
               if mKd h60 a0 = 10 then (fX10_cell a0 v44 v53 h60).bind (fun ((v64, h63) : Int32 × Mem) =>
                (xI 11 h63 v62 v64).bind fun v65 =>
                if mKd h63 a0 = 10 then (fX10_links a0 v26 v65 h63).bind (fun ((_u, h66) : Unit × Mem) =>
                 nm (v31 + 1 : Int32) fun v67 =>
                 k33 (v67, h66)) else none) else none))) FU (0, h27)) FU (0, h11)
      else
       (gR 10 h11 a0 16).bind fun v15 =>
       (gR 10 h11 a0 12).bind fun v16 =>
       (xI 11 h11 v16 (2 * v10)).bind fun v17 =>
       (gR 10 h11 a0 12).bind fun v18 =>
       (xI 11 h11 v18 ((2 * v10) + 1)).bind fun v19 =>
       if mKd h11 a0 = 10 then (fX10_cell a0 v17 v19 h11).bind (fun ((v21, h20) : Int32 × Mem) =>
        (yI 11 h20 v15 v21 v10).bind fun h22 =>
        (gR 10 h22 a0 17).bind fun v23 =>
        (yI 11 h22 v23 v10 v10).bind fun h24 =>
        nm (v10 + 1 : Int32) fun v25 =>
        k12 (v25, h24)) else none) FU (0, h4)
    else
     (gR 10 h4 a0 16).bind fun v7 =>
     (yI 11 h4 v7 v3 (-1)).bind fun h8 =>
     nm (v3 + 1 : Int32) fun v9 =>
     k5 (v9, h8)) FU (0, h2)) else none) else none
noncomputable def fX10_rowAt (a0 : Nat) (a1 : Int64) (h0 : Mem) : Option (Int64 × Mem) :=
 lpF (fun k3 ((v1, v2) : Int64 × Int32) =>
  (gI 10 h0 a0 0).bind fun v5 =>
  if v5 < v2 then
   some ((v1 : Int64), h0)
  else
   (gR 10 h0 a0 22).bind fun v6 =>
   (xJ h0 v6 v2).bind fun v7 =>
   nm ((v1 * a1) + v7 : Int64) fun v8 =>
   nm (v2 + 1 : Int32) fun v9 =>
   k3 (v8, v9)) FU (0, 0)
noncomputable def fX10_greatest (a0 : Nat) (a1 : Int32) (h0 : Mem) : Option (Int32 × Mem) :=
 lpF (fun k3 ((v1, h2) : Int32 × Mem) =>
  if v1 < a1 then
   some (((-1) : Int32), h2)
  else
   if mKd h2 a0 = 10 then (fX10_rowAt a0 v1.toInt64 h2).bind (fun ((v6, h5) : Int64 × Mem) =>
    if mKd h5 a0 = 10 then (fX10_rowAt a0 ((v1 + 1).toInt64) h5).bind (fun ((v8, h7) : Int64 × Mem) =>
     if (lg_cmp v6 0) = 0 then
      some ((v1 : Int32), h7)
     else
      jn (fun (_ : Unit) =>
       if 0 ≤ (lg_cmp v6 0) then
        nm (v1 + (-1) : Int32) fun v13 =>
        k3 (v13, h7)
       else
        if (lg_cmp v8 0) ≤ 0 then
         nm (v1 + (-1) : Int32) fun v11 =>
         k3 (v11, h7)
        else
         some ((v1 : Int32), h7)) (fun k9 =>
       if (lg_cmp v6 0) ≤ 0 then
        k9 ()
       else
        if (lg_cmp v8 0) < 0 then
         some ((v1 : Int32), h7)
        else
         k9 ())) else none) else none) FU (99, h0)
noncomputable def fX10_goesOn (a0 : Nat) (a1 : Int32) (h0 : Mem) : Option (Int32 × Mem) :=
 lpF (fun k3 ((v1, h2) : Int32 × Mem) =>
  (gI 10 h2 a0 0).bind fun v5 =>
  if v5 < v1 then
   lpF (fun k11 ((v9, h10) : Int32 × Mem) =>
    (gI 10 h10 a0 0).bind fun v13 =>
    if v13 < v9 then
     lpF (fun k36 ((v33, v34, h35) : Int32 × Int32 × Mem) =>
      (gI 10 h35 a0 0).bind fun v38 =>
      if v38 < v34 then
       if v33 = 0 ∨ v33 = 1 then some (v33, h35) else none
      else
       (gR 10 h35 a0 22).bind fun v39 =>
       (gR 10 h35 a0 23).bind fun v40 =>
       (xJ h35 v40 v34).bind fun v41 =>
       (yJ h35 v39 v34 v41).bind fun h42 =>
       (gR 10 h42 a0 22).bind fun v43 =>
       (xJ h42 v43 v34).bind fun v44 =>
       (fX10_in v44 (-1000000000) 1000000000 h42).bind (fun ((v46, h45) : Int32 × Mem) =>
        nm (v33 &&& v46 : Int32) fun v47 =>
        nm (v34 + 1 : Int32) fun v48 =>
        k36 (v47, v48, h45))) FU (1, 0, h10)
    else
     (gI 10 h10 a0 0).bind fun v14 =>
     lpF (fun k17 ((v15, h16) : Int32 × Mem) =>
      if v15 < 0 then
       nm (v9 + 1 : Int32) fun v31 =>
       k11 (v31, h16)
      else
       (gR 10 h16 a0 23).bind fun v19 =>
       (gR 10 h16 a0 23).bind fun v20 =>
       (xJ h16 v20 v15).bind fun v21 =>
       if v15 ≤ 0 then
        (gR 10 h16 a0 22).bind fun v26 =>
        (xJ h16 v26 v9).bind fun v27 =>
        (yJ h16 v19 v15 ((a1.toInt64 * v21) + v27)).bind fun h28 =>
        nm (v15 + (-1) : Int32) fun v29 =>
        k17 (v29, h28)
       else
        (gR 10 h16 a0 23).bind fun v22 =>
        (xJ h16 v22 (v15 - 1)).bind fun v23 =>
        (yJ h16 v19 v15 ((a1.toInt64 * v21) + v23)).bind fun h24 =>
        nm (v15 + (-1) : Int32) fun v25 =>
        k17 (v25, h24)) FU (v14, h10)) FU (0, h2)
  else
   (gR 10 h2 a0 23).bind fun v6 =>
   (yJ h2 v6 v1 0).bind fun h7 =>
   nm (v1 + 1 : Int32) fun v8 =>
   k3 (v8, h7)) FU (0, h0)
noncomputable def fX10_tellsParts (a0 : Nat) (h0 : Mem) : Option (Unit × Mem) :=
 lpF (fun k3 ((v1, h2) : Int32 × Mem) =>
  (gI 10 h2 a0 0).bind fun v5 =>
  if v5 < v1 then
   (pI 10 h2 a0 25 0).bind fun h11 =>
   lpF (fun k14 ((v12, h13) : Int32 × Mem) =>
    if v12 = 0 then
     some ((), h13)
    else
     (gI 10 h13 a0 25).bind fun v16 =>
     if 8 ≤ v16 then
      some ((), h13)
     else
      (gI 10 h13 a0 25).bind fun v17 =>
      jn (fun (v18 : Int32) =>
       if mKd h13 a0 = 10 then (fX10_greatest a0 v18 h13).bind (fun ((v22, h21) : Int32 × Mem) =>
        jn (fun (v23 : Int32) =>
         if v23 = 0 then
          k14 (v23, h21)
         else
          (gR 10 h21 a0 24).bind fun v26 =>
          (gI 10 h21 a0 25).bind fun v27 =>
          (yI 11 h21 v26 v27 v22).bind fun h28 =>
          (gI 10 h28 a0 25).bind fun v29 =>
          (pI 10 h28 a0 25 (v29 + 1)).bind fun h30 =>
          if mKd h30 a0 = 10 then (fX10_rowAt a0 v22.toInt64 h30).bind (fun ((v32, h31) : Int64 × Mem) =>
           if (lg_cmp v32 0) = 0 then
            k14 (0, h31)
           else
            if mKd h31 a0 = 10 then (fX10_goesOn a0 v22 h31).bind (fun ((v34, h33) : Int32 × Mem) =>
             if v34 = 0 then
              k14 (0, h33)
             else
              k14 (1, h33)) else none) else none) (fun k24 =>
         if v22 < 0 then
          k24 0
         else
          k24 1)) else none) (fun k19 =>
       if v17 = 0 then
        k19 0
       else
        k19 1)) FU (1, h11)
  else
   (gR 10 h2 a0 22).bind fun v6 =>
   (gR 10 h2 a0 1).bind fun v7 =>
   (xJ h2 v7 v1).bind fun v8 =>
   (yJ h2 v6 v1 v8).bind fun h9 =>
   nm (v1 + 1 : Int32) fun v10 =>
   k3 (v10, h9)) FU (0, h0)
noncomputable def fX10_tellsConvergent (a0 : Nat) (a1 : Int32) (h0 : Mem) : Option (Unit × Mem) :=
 (pJ 10 h0 a0 26 1).bind fun h1 =>
 (pJ 10 h1 a0 27 0).bind fun h2 =>
 lpF (fun k7 ((v3, v4, v5, h6) : Int64 × Int64 × Int32 × Mem) =>
  if a1 < v5 then
   some ((), h6)
  else
   (gR 10 h6 a0 24).bind fun v9 =>
   (xI 11 h6 v9 v5).bind fun v10 =>
   (gJ 10 h6 a0 26).bind fun v11 =>
   nm ((v10.toInt64 * v11) + v3 : Int64) fun v12 =>
   (gR 10 h6 a0 24).bind fun v13 =>
   (xI 11 h6 v13 v5).bind fun v14 =>
   (gJ 10 h6 a0 27).bind fun v15 =>
   nm ((v14.toInt64 * v15) + v4 : Int64) fun v16 =>
   (gJ 10 h6 a0 26).bind fun v17 =>
   (gJ 10 h6 a0 27).bind fun v18 =>
   (pJ 10 h6 a0 26 v12).bind fun h19 =>
   (pJ 10 h19 a0 27 v16).bind fun h20 =>
   nm (v5 + 1 : Int32) fun v21 =>
   k7 (v17, v18, v21, h20)) FU (0, 1, 0, h2)
noncomputable def fX10_answering (a0 : Nat) (h0 : Mem) : Option (Int32 × Mem) :=
 if mKd h0 a0 = 10 then (fX10_tellsParts a0 h0).bind (fun ((_u, h1) : Unit × Mem) =>
  lpF (fun k5 ((v2, v3, h4) : Int32 × Int32 × Mem) =>
   (gI 10 h4 a0 25).bind fun v7 =>
   if v7 ≤ v3 then
    some ((v2 : Int32), h4)
   else
    if mKd h4 a0 = 10 then (fX10_tellsConvergent a0 v3 h4).bind (fun ((_u, h8) : Unit × Mem) =>
     (gJ 10 h8 a0 26).bind fun v9 =>
     (gI 10 h8 a0 3).bind fun v10 =>
     (gI 10 h8 a0 3).bind fun v11 =>
     (fX10_in v9 ((-v10).toInt64) v11.toInt64 h8).bind (fun ((v13, h12) : Int32 × Mem) =>
      if v13 = 0 then
       nm (v2 + 0 : Int32) fun v32 =>
       nm (v3 + 1 : Int32) fun v33 =>
       k5 (v32, v33, h12)
      else
       (gJ 10 h12 a0 27).bind fun v14 =>
       (gI 10 h12 a0 3).bind fun v15 =>
       (gI 10 h12 a0 3).bind fun v16 =>
       (fX10_in v14 ((-v15).toInt64) v16.toInt64 h12).bind (fun ((v18, h17) : Int32 × Mem) =>
        if v18 = 0 then
         nm (v2 + 0 : Int32) fun v29 =>
         nm (v3 + 1 : Int32) fun v30 =>
         k5 (v29, v30, h17)
        else
         (gJ 10 h17 a0 26).bind fun v19 =>
         (gJ 10 h17 a0 27).bind fun v20 =>
         if mKd h17 a0 = 10 then (fX10_valueAt a0 v19 v20 h17).bind (fun ((v22, h21) : Int64 × Mem) =>
          (gI 10 h21 a0 2).bind fun v23 =>
          if (lg_cmp v22 v23.toInt64) = 0 then
           nm (v2 + 1 : Int32) fun v24 =>
           nm (v3 + 1 : Int32) fun v25 =>
           k5 (v24, v25, h21)
          else
           nm (v2 + 0 : Int32) fun v26 =>
           nm (v3 + 1 : Int32) fun v27 =>
           k5 (v26, v27, h21)) else none))) else none) FU (0, 0, h1)) else none
noncomputable def fX10_told (a0 : Nat) (a1 : Int32) (h0 : Mem) : Option (Int32 × Mem) :=
 if a1 = 0 then
  (gI 10 h0 a0 0).bind fun v2 =>
  some ((v2 : Int32), h0)
 else if a1 = 1 then
  (gI 10 h0 a0 2).bind fun v4 =>
  some ((v4 + 10000 : Int32), h0)
 else if a1 = 2 then
  (gI 10 h0 a0 3).bind fun v6 =>
  some ((v6 : Int32), h0)
 else if a1 = 3 then
  if mKd h0 a0 = 10 then (fX10_tellsAnswers a0 h0).bind (fun ((_u, h8) : Unit × Mem) =>
   (gI 10 h8 a0 13).bind fun v9 =>
   some ((v9 : Int32), h8)) else none
 else if a1 = 4 then
  if mKd h0 a0 = 10 then (fX10_tellsUnits a0 h0).bind (fun ((_u, h11) : Unit × Mem) =>
   (gI 10 h11 a0 15).bind fun v12 =>
   some ((v12 : Int32), h11)) else none
 else if a1 = 5 then
  if mKd h0 a0 = 10 then (fX10_tellsFamilies a0 h0).bind (fun ((_u, h14) : Unit × Mem) =>
   (gI 10 h14 a0 19).bind fun v15 =>
   some ((v15 : Int32), h14)) else none
 else if a1 = 6 then
  if mKd h0 a0 = 10 then (fX10_tellsParts a0 h0).bind (fun ((_u, h17) : Unit × Mem) =>
   (gI 10 h17 a0 25).bind fun v18 =>
   some ((v18 : Int32), h17)) else none
 else if a1 = 7 then
  if mKd h0 a0 = 10 then (fX10_answering a0 h0).bind (fun ((v21, h20) : Int32 × Mem) =>
   some ((v21 : Int32), h20)) else none
 else 
  some (((-1) : Int32), h0)
noncomputable def fX10_value (a0 : Nat) (a1 : Int32) (a2 : Int32) (h0 : Mem) : Option (Int64 × Mem) :=
 (fX10_in a1.toInt64 (-999) 999 h0).bind (fun ((v2, h1) : Int32 × Mem) =>
  if v2 = 0 then
   some (((-9223372036854775808) : Int64), h1)
  else
   (fX10_in a2.toInt64 (-999) 999 h1).bind (fun ((v4, h3) : Int32 × Mem) =>
    if v4 = 0 then
     some (((-9223372036854775808) : Int64), h3)
    else
     if mKd h3 a0 = 10 then (fX10_valueAt a0 a1.toInt64 a2.toInt64 h3).bind (fun ((v6, h5) : Int64 × Mem) =>
      some ((v6 : Int64), h5)) else none))
noncomputable def fX10_answer (a0 : Nat) (a1 : Int32) (a2 : Int32) (h0 : Mem) : Option (Int32 × Mem) :=
 if a1 < 0 then
  some (((-1) : Int32), h0)
 else
  (fX10_in a2.toInt64 0 2 h0).bind (fun ((v2, h1) : Int32 × Mem) =>
   if v2 = 0 then
    some (((-1) : Int32), h1)
   else
    if mKd h1 a0 = 10 then (fX10_tellsFamilies a0 h1).bind (fun ((_u, h3) : Unit × Mem) =>
     (gI 10 h3 a0 13).bind fun v4 =>
     if a1 < v4 then
      if a2 = 2 then
       (gR 10 h3 a0 18).bind fun v5 =>
       (xI 11 h3 v5 a1).bind fun v6 =>
       some ((v6 : Int32), h3)
      else
       (gR 10 h3 a0 12).bind fun v7 =>
       (xI 11 h3 v7 ((2 * a1) + a2)).bind fun v8 =>
       some ((v8 + 100 : Int32), h3)
     else
      some (((-5) : Int32), h3)) else none)
noncomputable def fX10_remainders (a0 : Nat) (a1 : Int32) (h0 : Mem) : Option (Int32 × Mem) :=
 lpF (fun k3 ((v1, h2) : Int32 × Mem) =>
  if 13 ≤ v1 then
   lpF (fun k10 ((v8, h9) : Int32 × Mem) =>
    if a1 ≤ v8 then
     lpF (fun k25 ((v23, v24) : Int32 × Int32) =>
      if 13 ≤ v24 then
       some ((v23 : Int32), h9)
      else
       (gR 10 h9 a0 21).bind fun v27 =>
       (xI 13 h9 v27 v24).bind fun v28 =>
       if v28 = 0 then
        nm (v23 + 0 : Int32) fun v31 =>
        nm (v24 + 1 : Int32) fun v32 =>
        k25 (v31, v32)
       else
        nm (v23 + 1 : Int32) fun v29 =>
        nm (v24 + 1 : Int32) fun v30 =>
        k25 (v29, v30)) FU (0, 0)
    else
     lpF (fun k14 ((v12, h13) : Int32 × Mem) =>
      if a1 ≤ v12 then
       nm (v8 + 1 : Int32) fun v21 =>
       k10 (v21, h13)
      else
       (gR 10 h13 a0 21).bind fun v16 =>
       if mKd h13 a0 = 10 then (fX10_valueAt a0 v8.toInt64 v12.toInt64 h13).bind (fun ((v18, h17) : Int64 × Mem) =>
        if a1.toInt64 = 0 then none else
        if a1.toInt64 = 0 then none else
        (yI 13 h17 v16 ((((v18 - v18 / a1.toInt64 * a1.toInt64) + a1.toInt64) - ((v18 - v18 / a1.toInt64 * a1.toInt64) + a1.toInt64) / a1.toInt64 * a1.toInt64).toInt32) 1).bind fun h19 =>
        nm (v12 + 1 : Int32) fun v20 =>
        k14 (v20, h19)) else none) FU (0, h9)) FU (0, h2)
  else
   (gR 10 h2 a0 21).bind fun v5 =>
   (yI 13 h2 v5 v1 0).bind fun h6 =>
   nm (v1 + 1 : Int32) fun v7 =>
   k3 (v7, h6)) FU (0, h0)
noncomputable def fX10_bars (a0 : Nat) (a1 : Int32) (h0 : Mem) : Option (Int32 × Mem) :=
 if mKd h0 a0 = 10 then (fX10_remainders a0 a1 h0).bind (fun ((v2, h1) : Int32 × Mem) =>
  (gR 10 h1 a0 21).bind fun v3 =>
  (gI 10 h1 a0 2).bind fun v4 =>
  if a1 = 0 then none else
  if a1 = 0 then none else
  (xI 13 h1 v3 (((v4 - v4 / a1 * a1) + a1) - ((v4 - v4 / a1 * a1) + a1) / a1 * a1)).bind fun v5 =>
  if v5 = 0 then
   some ((1 : Int32), h1)
  else
   some ((0 : Int32), h1)) else none
noncomputable def fX10_prime (a0 : Nat) (a1 : Int32) (a2 : Int32) (h0 : Mem) : Option (Int32 × Mem) :=
 (fX10_in a1.toInt64 0 5 h0).bind (fun ((v2, h1) : Int32 × Mem) =>
  if v2 = 0 then
   some (((-1) : Int32), h1)
  else
   (fX10_in a2.toInt64 0 2 h1).bind (fun ((v4, h3) : Int32 × Mem) =>
    if v4 = 0 then
     some (((-1) : Int32), h3)
    else
     (gR 10 h3 a0 20).bind fun v5 =>
     (xI 11 h3 v5 a1).bind fun v6 =>
     if a2 = 0 then
      some ((v6 : Int32), h3)
     else
      if a2 = 1 then
       if mKd h3 a0 = 10 then (fX10_remainders a0 v6 h3).bind (fun ((v8, h7) : Int32 × Mem) =>
        some ((v8 : Int32), h7)) else none
      else
       if mKd h3 a0 = 10 then (fX10_bars a0 v6 h3).bind (fun ((v10, h9) : Int32 × Mem) =>
        if v10 = 0 then
         some ((0 : Int32), h9)
        else
         some ((1 : Int32), h9)) else none))
noncomputable def fX10_firstBar (a0 : Nat) (h0 : Mem) : Option (Int32 × Mem) :=
 lpF (fun k3 ((v1, h2) : Int32 × Mem) =>
  if 6 ≤ v1 then
   some (((-5) : Int32), h2)
  else
   (gR 10 h2 a0 20).bind fun v5 =>
   (xI 11 h2 v5 v1).bind fun v6 =>
   if mKd h2 a0 = 10 then (fX10_bars a0 v6 h2).bind (fun ((v8, h7) : Int32 × Mem) =>
    if v8 = 0 then
     nm (v1 + 1 : Int32) fun v11 =>
     k3 (v11, h7)
    else
     (gR 10 h7 a0 20).bind fun v9 =>
     (xI 11 h7 v9 v1).bind fun v10 =>
     some ((v10 : Int32), h7)) else none) FU (0, h0)
noncomputable def fX10_reason (a0 : Nat) (a1 : Int32) (h0 : Mem) : Option (Int32 × Mem) :=
 if 0 ≤ a1 then
  if mKd h0 a0 = 10 then (fX10_tellsAnswers a0 h0).bind (fun ((_u, h1) : Unit × Mem) =>
   if mKd h1 a0 = 10 then (fX10_firstBar a0 h1).bind (fun ((v3, h2) : Int32 × Mem) =>
    (gI 10 h2 a0 13).bind fun v4 =>
    if 0 < v4 then
     some (((-5) : Int32), h2)
    else
     if 2 < a1 then
      some (((-5) : Int32), h2)
     else
      jn (fun (_ : Unit) =>
       if a1 = 0 then
        (gI 10 h2 a0 3).bind fun v7 =>
        some ((v7 : Int32), h2)
       else
        if a1 = 1 then
         some ((v3 : Int32), h2)
        else
         if mKd h2 a0 = 10 then (fX10_remainders a0 v3 h2).bind (fun ((v9, h8) : Int32 × Mem) =>
          some ((v9 : Int32), h8)) else none) (fun k5 =>
       if a1 ≤ 0 then
        k5 ()
       else
        if v3 = (-5) then
         some (((-5) : Int32), h2)
        else
         k5 ())) else none) else none
 else
  some (((-1) : Int32), h0)
noncomputable def fX10_unit (a0 : Nat) (a1 : Int32) (a2 : Int32) (h0 : Mem) : Option (Int32 × Mem) :=
 if a1 < 0 then
  some (((-1) : Int32), h0)
 else
  (fX10_in a2.toInt64 0 3 h0).bind (fun ((v2, h1) : Int32 × Mem) =>
   if v2 = 0 then
    some (((-1) : Int32), h1)
   else
    if mKd h1 a0 = 10 then (fX10_tellsUnits a0 h1).bind (fun ((_u, h3) : Unit × Mem) =>
     (gI 10 h3 a0 15).bind fun v4 =>
     if v4 ≤ a1 then
      some (((-5) : Int32), h3)
     else
      (gR 10 h3 a0 14).bind fun v5 =>
      (xI 11 h3 v5 ((4 * a1) + a2)).bind fun v6 =>
      some ((v6 + 10 : Int32), h3)) else none)
noncomputable def fX10_family (a0 : Nat) (a1 : Int32) (h0 : Mem) : Option (Int32 × Mem) :=
 if 0 ≤ a1 then
  if mKd h0 a0 = 10 then (fX10_tellsFamilies a0 h0).bind (fun ((_u, h1) : Unit × Mem) =>
   (gI 10 h1 a0 19).bind fun v2 =>
   if a1 < v2 then
    lpF (fun k5 ((v3, v4) : Int32 × Int32) =>
     (gI 10 h1 a0 13).bind fun v7 =>
     if v7 ≤ v4 then
      some ((v3 : Int32), h1)
     else
      (gR 10 h1 a0 18).bind fun v8 =>
      (xI 11 h1 v8 v4).bind fun v9 =>
      if v9 = a1 then
       nm (v3 + 1 : Int32) fun v10 =>
       nm (v4 + 1 : Int32) fun v11 =>
       k5 (v10, v11)
      else
       nm (v3 + 0 : Int32) fun v12 =>
       nm (v4 + 1 : Int32) fun v13 =>
       k5 (v12, v13)) FU (0, 0)
   else
    some (((-5) : Int32), h1)) else none
 else
  some (((-1) : Int32), h0)
noncomputable def fX10_part (a0 : Nat) (a1 : Int32) (h0 : Mem) : Option (Int32 × Mem) :=
 if 0 ≤ a1 then
  if mKd h0 a0 = 10 then (fX10_tellsParts a0 h0).bind (fun ((_u, h1) : Unit × Mem) =>
   (gI 10 h1 a0 25).bind fun v2 =>
   if v2 ≤ a1 then
    some (((-5) : Int32), h1)
   else
    (gR 10 h1 a0 24).bind fun v3 =>
    (xI 11 h1 v3 a1).bind fun v4 =>
    some ((v4 : Int32), h1)) else none
 else
  some (((-1) : Int32), h0)
noncomputable def fX10_convergent (a0 : Nat) (a1 : Int32) (a2 : Int32) (h0 : Mem) : Option (Int64 × Mem) :=
 if a1 < 0 then
  some (((-9223372036854775808) : Int64), h0)
 else
  (fX10_in a2.toInt64 0 1 h0).bind (fun ((v2, h1) : Int32 × Mem) =>
   if v2 = 0 then
    some (((-9223372036854775808) : Int64), h1)
   else
    if mKd h1 a0 = 10 then (fX10_tellsParts a0 h1).bind (fun ((_u, h3) : Unit × Mem) =>
     (gI 10 h3 a0 25).bind fun v4 =>
     if a1 < v4 then
      if mKd h3 a0 = 10 then (fX10_tellsConvergent a0 a1 h3).bind (fun ((_u, h5) : Unit × Mem) =>
       if a2 = 0 then
        (gJ 10 h5 a0 26).bind fun v6 =>
        some ((v6 : Int64), h5)
       else
        (gJ 10 h5 a0 27).bind fun v7 =>
        some ((v7 : Int64), h5)) else none
     else
      some (((-9223372036854775808) : Int64), h3)) else none)
noncomputable def fX10_see (a0 : Nat) (a1 : Int32) (a2 : Int32) (a3 : Int32) (h0 : Mem) : Option (Int32 × Mem) :=
 if a1 = (-100) then
  (pI 10 h0 a0 5 0).bind fun h1 =>
  some ((0 : Int32), h1)
 else
  (fX10_in a1.toInt64 (-9) 9 h0).bind (fun ((v3, h2) : Int32 × Mem) =>
   if v3 = 0 then
    some (((-2) : Int32), h2)
   else
    (fX10_in a2.toInt64 (-9) 9 h2).bind (fun ((v5, h4) : Int32 × Mem) =>
     if v5 = 0 then
      some (((-2) : Int32), h4)
     else
      (fX10_in a3.toInt64 (-9999) 9999 h4).bind (fun ((v7, h6) : Int32 × Mem) =>
       if v7 = 0 then
        some (((-2) : Int32), h6)
       else
        (gI 10 h6 a0 5).bind fun v8 =>
        if v8 = 4 then
         some (((-4) : Int32), h6)
        else
         (gR 10 h6 a0 4).bind fun v9 =>
         (gI 10 h6 a0 5).bind fun v10 =>
         (yI 11 h6 v9 (3 * v10) a1).bind fun h11 =>
         (gR 10 h11 a0 4).bind fun v12 =>
         (gI 10 h11 a0 5).bind fun v13 =>
         (yI 11 h11 v12 ((3 * v13) + 1) a2).bind fun h14 =>
         (gR 10 h14 a0 4).bind fun v15 =>
         (gI 10 h14 a0 5).bind fun v16 =>
         (yI 11 h14 v15 ((3 * v16) + 2) a3).bind fun h17 =>
         (gI 10 h17 a0 5).bind fun v18 =>
         (pI 10 h17 a0 5 (v18 + 1)).bind fun h19 =>
         (gI 10 h19 a0 5).bind fun v20 =>
         some ((v20 : Int32), h19))))
noncomputable def fX10_fits (a0 : Nat) (a1 : Int32) (a2 : Int32) (h0 : Mem) : Option (Int32 × Mem) :=
 if mKd h0 a0 = 10 then (fX10_isNumber a0 a1 h0).bind (fun ((v2, h1) : Int32 × Mem) =>
  if v2 = 0 then
   some (((-1) : Int32), h1)
  else
   (fX10_in a2.toInt64 0 1 h1).bind (fun ((v4, h3) : Int32 × Mem) =>
    if v4 = 0 then
     some (((-1) : Int32), h3)
    else
     (gR 10 h3 a0 1).bind fun v5 =>
     (xJ h3 v5 a1).bind fun v6 =>
     lpF (fun k11 ((v7, v8, v9, h10) : Int32 × Int32 × Int32 × Mem) =>
      if v9 < (-99) then
       (gR 10 h10 a0 1).bind fun v44 =>
       (yJ h10 v44 a1 v6).bind fun h45 =>
       if a2 = 0 then
        some ((v7 : Int32), h45)
       else
        some ((v8 : Int32), h45)
      else
       (gR 10 h10 a0 1).bind fun v13 =>
       (yJ h10 v13 a1 v9.toInt64).bind fun h14 =>
       lpF (fun k18 ((v15, v16, h17) : Int32 × Int32 × Mem) =>
        (gI 10 h17 a0 5).bind fun v20 =>
        if v20 ≤ v16 then
         jn (fun (v34 : Int32) =>
          nm (v7 + v34 : Int32) fun v37 =>
          if v15 = 0 then
           nm (v9 + (-1) : Int32) fun v40 =>
           k11 (v37, v8, v40, h17)
          else
           nm (v9 + 100 : Int32) fun v38 =>
           nm (v9 + (-1) : Int32) fun v39 =>
           k11 (v37, v38, v39, h17)) (fun k35 =>
          if v15 = 0 then
           k35 0
          else
           k35 1)
        else
         (gR 10 h17 a0 4).bind fun v21 =>
         (xI 11 h17 v21 (3 * v16)).bind fun v22 =>
         (gR 10 h17 a0 4).bind fun v23 =>
         (xI 11 h17 v23 ((3 * v16) + 1)).bind fun v24 =>
         if mKd h17 a0 = 10 then (fX10_valueAt a0 v22.toInt64 v24.toInt64 h17).bind (fun ((v26, h25) : Int64 × Mem) =>
          (gR 10 h25 a0 4).bind fun v27 =>
          (xI 11 h25 v27 ((3 * v16) + 2)).bind fun v28 =>
          if (lg_cmp v26 v28.toInt64) = 0 then
           nm (v15 &&& 1 : Int32) fun v29 =>
           nm (v16 + 1 : Int32) fun v30 =>
           k18 (v29, v30, h25)
          else
           nm (v15 &&& 0 : Int32) fun v31 =>
           nm (v16 + 1 : Int32) fun v32 =>
           k18 (v31, v32, h25)) else none) FU (1, 0, h14)) FU (0, 0, 99, h3))) else none
noncomputable def fX10_lowest (a0 : Int64) (a2 : Int64) (a4 : Int32) (h0 : Mem) : Option (Int64 × Mem) :=
 jn (fun (v1 : Int64) =>
  lpF (fun k6 ((v4, v5) : Int64 × Int64) =>
   if (lg_cmp v5 0) = 0 then
    if a4 = 0 then
     if v4 = 0 then none else
     some ((a0 / v4 : Int64), h0)
    else
     if v4 = 0 then none else
     some ((a2 / v4 : Int64), h0)
   else
    if v5 = 0 then none else
    nm (v4 - v4 / v5 * v5 : Int64) fun v8 =>
    k6 (v5, v8)) FU (v1, a2)) (fun k2 =>
  if 0 ≤ (lg_cmp a0 0) then
   k2 a0
  else
   k2 (-a0))
noncomputable def fX10_odds (a0 : Nat) (a1 : Int32) (h0 : Mem) : Option (Int64 × Mem) :=
 (fX10_in a1.toInt64 0 1 h0).bind (fun ((v2, h1) : Int32 × Mem) =>
  if v2 = 0 then
   some (((-9223372036854775808) : Int64), h1)
  else
   (gI 10 h1 a0 3).bind fun v3 =>
   nm (-v3 : Int32) fun v4 =>
   lpF (fun k8 ((v5, v6, h7) : Int64 × Int32 × Mem) =>
    (gI 10 h7 a0 3).bind fun v10 =>
    if v10 < v6 then
     (gI 10 h7 a0 3).bind fun v29 =>
     (gI 10 h7 a0 3).bind fun v30 =>
     (fX10_lowest v5 (((2 * v29.toInt64) + 1) * ((2 * v30.toInt64) + 1)) a1 h7).bind (fun ((v32, h31) : Int64 × Mem) =>
      some ((v32 : Int64), h31))
    else
     (gI 10 h7 a0 3).bind fun v11 =>
     nm (-v11 : Int32) fun v12 =>
     lpF (fun k16 ((v13, v14, h15) : Int64 × Int32 × Mem) =>
      (gI 10 h15 a0 3).bind fun v18 =>
      if v18 < v14 then
       nm (v6 + 1 : Int32) fun v27 =>
       k8 (v13, v27, h15)
      else
       if mKd h15 a0 = 10 then (fX10_valueAt a0 v6.toInt64 v14.toInt64 h15).bind (fun ((v20, h19) : Int64 × Mem) =>
        (gI 10 h19 a0 2).bind fun v21 =>
        if (lg_cmp v20 v21.toInt64) ≤ 0 then
         nm (v13 + 0 : Int64) fun v24 =>
         nm (v14 + 1 : Int32) fun v25 =>
         k16 (v24, v25, h19)
        else
         nm (v13 + 1 : Int64) fun v22 =>
         nm (v14 + 1 : Int32) fun v23 =>
         k16 (v22, v23, h19)) else none) FU (v5, v12, h7)) FU (0, v4, h1))
noncomputable def fX10_mean (a0 : Nat) (a1 : Int32) (h0 : Mem) : Option (Int64 × Mem) :=
 (fX10_in a1.toInt64 0 1 h0).bind (fun ((v2, h1) : Int32 × Mem) =>
  if v2 = 0 then
   some (((-9223372036854775808) : Int64), h1)
  else
   (gI 10 h1 a0 3).bind fun v3 =>
   nm (-v3 : Int32) fun v4 =>
   lpF (fun k8 ((v5, v6, h7) : Int64 × Int32 × Mem) =>
    (gI 10 h7 a0 3).bind fun v10 =>
    if v10 < v6 then
     (gI 10 h7 a0 3).bind fun v25 =>
     (gI 10 h7 a0 3).bind fun v26 =>
     (fX10_lowest v5 (((2 * v25.toInt64) + 1) * ((2 * v26.toInt64) + 1)) a1 h7).bind (fun ((v28, h27) : Int64 × Mem) =>
      some ((v28 : Int64), h27))
    else
     (gI 10 h7 a0 3).bind fun v11 =>
     nm (-v11 : Int32) fun v12 =>
     lpF (fun k16 ((v13, v14, h15) : Int64 × Int32 × Mem) =>
      (gI 10 h15 a0 3).bind fun v18 =>
      if v18 < v14 then
       nm (v6 + 1 : Int32) fun v23 =>
       k8 (v13, v23, h15)
      else
       if mKd h15 a0 = 10 then (fX10_valueAt a0 v6.toInt64 v14.toInt64 h15).bind (fun ((v20, h19) : Int64 × Mem) =>
        nm (v13 + v20 : Int64) fun v21 =>
        nm (v14 + 1 : Int32) fun v22 =>
        k16 (v21, v22, h19)) else none) FU (v5, v12, h7)) FU (0, v4, h1))
noncomputable def fX10_event (a0 : Nat) (a1 : Int32) (a2 : Int32) (h0 : Mem) : Option (Int32 × Mem) :=
 if a1 = (-1) then
  (pI 10 h0 a0 7 0).bind fun h1 =>
  some ((0 : Int32), h1)
 else
  (fX10_in a1.toInt64 0 2 h0).bind (fun ((v3, h2) : Int32 × Mem) =>
   if v3 = 0 then
    some (((-1) : Int32), h2)
   else
    jn (fun (h4 : Mem) =>
     jn (fun (h7 : Mem) =>
      jn (fun (h10 : Mem) =>
       (gI 10 h10 a0 7).bind fun v13 =>
       if v13 = 8 then
        some (((-4) : Int32), h10)
       else
        (gR 10 h10 a0 6).bind fun v14 =>
        (gI 10 h10 a0 7).bind fun v15 =>
        (yI 11 h10 v14 (2 * v15) a1).bind fun h16 =>
        (gR 10 h16 a0 6).bind fun v17 =>
        (gI 10 h16 a0 7).bind fun v18 =>
        (yI 11 h16 v17 ((2 * v18) + 1) a2).bind fun h19 =>
        (gI 10 h19 a0 7).bind fun v20 =>
        (pI 10 h19 a0 7 (v20 + 1)).bind fun h21 =>
        (gI 10 h21 a0 7).bind fun v22 =>
        some ((v22 : Int32), h21)) (fun k11 =>
       if a1 = 2 then
        (fX10_in a2.toInt64 (-99) 99 h7).bind (fun ((v25, h24) : Int32 × Mem) =>
         if v25 = 0 then
          some (((-2) : Int32), h24)
         else
          k11 h24)
       else
        k11 h7)) (fun k8 =>
      if a1 = 1 then
       (fX10_in a2.toInt64 0 4 h4).bind (fun ((v29, h28) : Int32 × Mem) =>
        if v29 = 0 then
         some (((-1) : Int32), h28)
        else
         k8 h28)
      else
       k8 h4)) (fun k5 =>
     if a1 = 0 then
      if mKd h2 a0 = 10 then (fX10_isNumber a0 a2 h2).bind (fun ((v33, h32) : Int32 × Mem) =>
       if v33 = 0 then
        some (((-1) : Int32), h32)
       else
        k5 h32) else none
     else
      k5 h2))
noncomputable def fX10_happens (a0 : Nat) (a1 : Int32) (a2 : Int32) (h0 : Mem) : Option (Unit × Mem) :=
 jn (fun (h1 : Mem) =>
  jn (fun (h4 : Mem) =>
   if a1 = 2 then
    (gI 10 h4 a0 2).bind fun v7 =>
    (fX10_in ((v7 + a2).toInt64) (-9999) 9999 h4).bind (fun ((v9, h8) : Int32 × Mem) =>
     if v9 = 0 then
      some ((), h8)
     else
      (gI 10 h8 a0 2).bind fun v10 =>
      (pI 10 h8 a0 2 (v10 + a2)).bind fun h11 =>
      some ((), h11))
   else
    some ((), h4)) (fun k5 =>
   if a1 = 1 then
    if mKd h1 a0 = 10 then (fX10_moves a0 a2 h1).bind (fun ((v15, h14) : Int32 × Mem) =>
     k5 h14) else none
   else
    k5 h1)) (fun k2 =>
  if a1 = 0 then
   if mKd h0 a0 = 10 then (fX10_isNumber a0 a2 h0).bind (fun ((v18, h17) : Int32 × Mem) =>
    if v18 = 0 then
     k2 h17
    else
     (gR 10 h17 a0 1).bind fun v19 =>
     (gR 10 h17 a0 1).bind fun v20 =>
     (xJ h17 v20 a2).bind fun v21 =>
     (fJ9_min_f86c9 99 (v21 + 1) h17).bind (fun ((v23, h22) : Int64 × Mem) =>
      (yJ h22 v19 a2 v23).bind fun h24 =>
      k2 h24)) else none
  else
   k2 h0)
noncomputable def fX10_after (a0 : Nat) (a1 : Int32) (h0 : Mem) : Option (Int32 × Mem) :=
 (fX10_in a1.toInt64 0 2 h0).bind (fun ((v2, h1) : Int32 × Mem) =>
  if v2 = 0 then
   some (((-1) : Int32), h1)
  else
   (gI 10 h1 a0 2).bind fun v3 =>
   lpF (fun k6 ((v4, h5) : Int32 × Mem) =>
    if 5 ≤ v4 then
     lpF (fun k15 ((v13, h14) : Int32 × Mem) =>
      (gI 10 h14 a0 7).bind fun v17 =>
      if v17 ≤ v13 then
       jn (fun (v24 : Int32) =>
        if mKd h14 a0 = 10 then (fX10_told a0 v24 h14).bind (fun ((v28, h27) : Int32 × Mem) =>
         if mKd h27 a0 = 10 then (fX10_firstBar a0 h27).bind (fun ((v30, h29) : Int32 × Mem) =>
          (pI 10 h29 a0 2 v3).bind fun h31 =>
          lpF (fun k34 ((v32, h33) : Int32 × Mem) =>
           if 5 ≤ v32 then
            if a1 = 1 then
             some ((v30 : Int32), h33)
            else
             some ((v28 : Int32), h33)
           else
            (gR 10 h33 a0 1).bind fun v36 =>
            (gR 10 h33 a0 32).bind fun v37 =>
            (xJ h33 v37 v32).bind fun v38 =>
            (yJ h33 v36 v32 v38).bind fun h39 =>
            nm (v32 + 1 : Int32) fun v40 =>
            k34 (v40, h39)) FU (0, h31)) else none) else none) (fun k25 =>
        if a1 = 0 then
         k25 3
        else
         k25 4)
      else
       (gR 10 h14 a0 6).bind fun v18 =>
       (xI 11 h14 v18 (2 * v13)).bind fun v19 =>
       (gR 10 h14 a0 6).bind fun v20 =>
       (xI 11 h14 v20 ((2 * v13) + 1)).bind fun v21 =>
       if mKd h14 a0 = 10 then (fX10_happens a0 v19 v21 h14).bind (fun ((_u, h22) : Unit × Mem) =>
        nm (v13 + 1 : Int32) fun v23 =>
        k15 (v23, h22)) else none) FU (0, h5)
    else
     (gR 10 h5 a0 32).bind fun v8 =>
     (gR 10 h5 a0 1).bind fun v9 =>
     (xJ h5 v9 v4).bind fun v10 =>
     (yJ h5 v8 v4 v10).bind fun h11 =>
     nm (v4 + 1 : Int32) fun v12 =>
     k6 (v12, h11)) FU (0, h1))
noncomputable def fX10_book (a0 : Nat) (a1 : Int32) (a2 : Int32) (h0 : Mem) : Option (Int32 × Mem) :=
 if a1 = (-1) then
  (pI 10 h0 a0 9 0).bind fun h1 =>
  some ((0 : Int32), h1)
 else
  if mKd h0 a0 = 10 then (fX10_isNumber a0 a1 h0).bind (fun ((v3, h2) : Int32 × Mem) =>
   if v3 = 0 then
    some (((-1) : Int32), h2)
   else
    (fX10_in a2.toInt64 (-99) 99 h2).bind (fun ((v5, h4) : Int32 × Mem) =>
     if v5 = 0 then
      some (((-2) : Int32), h4)
     else
      (gI 10 h4 a0 9).bind fun v6 =>
      if v6 = 8 then
       some (((-4) : Int32), h4)
      else
       (gR 10 h4 a0 8).bind fun v7 =>
       (gI 10 h4 a0 9).bind fun v8 =>
       (yI 11 h4 v7 (2 * v8) a1).bind fun h9 =>
       (gR 10 h9 a0 8).bind fun v10 =>
       (gI 10 h9 a0 9).bind fun v11 =>
       (yI 11 h9 v10 ((2 * v11) + 1) a2).bind fun h12 =>
       (gI 10 h12 a0 9).bind fun v13 =>
       (pI 10 h12 a0 9 (v13 + 1)).bind fun h14 =>
       (gI 10 h14 a0 9).bind fun v15 =>
       some ((v15 : Int32), h14))) else none
noncomputable def fX10_looked (a0 : Nat) (h0 : Mem) : Option (Int32 × Mem) :=
 lpF (fun k3 ((v1, h2) : Int32 × Mem) =>
  (gI 10 h2 a0 9).bind fun v5 =>
  if v5 ≤ v1 then
   some (((-5) : Int32), h2)
  else
   (gR 10 h2 a0 8).bind fun v6 =>
   (xI 11 h2 v6 (2 * v1)).bind fun v7 =>
   if mKd h2 a0 = 10 then (fX10_isNumber a0 v7 h2).bind (fun ((v9, h8) : Int32 × Mem) =>
    if v9 = 0 then
     some ((v1 : Int32), h8)
    else
     (gR 10 h8 a0 1).bind fun v10 =>
     (gR 10 h8 a0 8).bind fun v11 =>
     (xI 11 h8 v11 (2 * v1)).bind fun v12 =>
     (xJ h8 v10 v12).bind fun v13 =>
     (gR 10 h8 a0 8).bind fun v14 =>
     (xI 11 h8 v14 ((2 * v1) + 1)).bind fun v15 =>
     if (lg_cmp v13 v15.toInt64) = 0 then
      nm (v1 + 1 : Int32) fun v16 =>
      k3 (v16, h8)
     else
      some ((v1 : Int32), h8)) else none) FU (0, h0)
noncomputable def fX10_isTape (a0 : Int32) (h0 : Mem) : Option (Int32 × Mem) :=
 (fX10_in a0.toInt64 0 5 h0).bind (fun ((v2, h1) : Int32 × Mem) =>
  if v2 = 0 ∨ v2 = 1 then some (v2, h1) else none)
noncomputable def fX10_judge (a0 : Nat) (a1 : Int32) (a2 : Int32) (h0 : Mem) : Option (Int32 × Mem) :=
 (fX10_isTape a1 h0).bind (fun ((v2, h1) : Int32 × Mem) =>
  if v2 = 0 then
   some (((-1) : Int32), h1)
  else
   (gR 10 h1 a0 33).bind fun v3 =>
   (xI 11 h1 v3 a1).bind fun v4 =>
   if 0 ≤ v4 then
    (gR 10 h1 a0 33).bind fun v5 =>
    (xI 11 h1 v5 a1).bind fun v6 =>
    if v6 = 1 then
     lpF (fun k8 (v7 : Int32) =>
      (gI 10 h1 a0 0).bind fun v10 =>
      if v10 < v7 then
       some (((-5) : Int32), h1)
      else
       if a2 < 0 then
        some ((100 + v7 : Int32), h1)
       else
        (gR 10 h1 a0 34).bind fun v11 =>
        (xI 11 h1 v11 a1).bind fun v12 =>
        if (lg_cmp (a2.toInt64 + v7.toInt64) v12.toInt64) < 0 then
         (gR 10 h1 a0 35).bind fun v13 =>
         (xJ h1 v13 (((60 * a1) + a2) + v7)).bind fun v14 =>
         (gR 10 h1 a0 1).bind fun v15 =>
         (xJ h1 v15 v7).bind fun v16 =>
         if (lg_cmp v14 v16) = 0 then
          nm (v7 + 1 : Int32) fun v17 =>
          k8 v17
         else
          some ((v7 : Int32), h1)
        else
         some ((100 + v7 : Int32), h1)) FU 0
    else
     some (((-12) : Int32), h1)
   else
    some ((100 : Int32), h1))
noncomputable def fX10_laysRow (a0 : Nat) (a1 : Int32) (a2 : Nat) (a3 : Int32) (h0 : Mem) : Option (Unit × Mem) :=
 lpF (fun k3 ((v1, h2) : Int32 × Mem) =>
  (aLn h2 a2).bind fun v5 =>
  if v5 ≤ v1 then
   some ((), h2)
  else
   (gR 10 h2 a0 38).bind fun v6 =>
   jn (fun (v7 : Int32) =>
    (yI 11 h2 v6 (a3 + v1) v7).bind fun h10 =>
    (gR 10 h10 a0 38).bind fun v11 =>
    (xI 11 h10 v11 (a3 + v1)).bind fun v12 =>
    (yI 11 h10 a2 v1 v12).bind fun h13 =>
    nm (v1 + 1 : Int32) fun v14 =>
    k3 (v14, h13)) (fun k8 =>
    if a1 = 0 then
     (xI 11 h2 a2 v1).bind fun v17 =>
     k8 v17
    else
     (gR 10 h2 a0 38).bind fun v15 =>
     (xI 11 h2 v15 (a3 + v1)).bind fun v16 =>
     k8 v16)) FU (0, h0)
noncomputable def fX10_lays (a0 : Nat) (a1 : Int32) (h0 : Mem) : Option (Unit × Mem) :=
 (gR 10 h0 a0 38).bind fun v1 =>
 jn (fun (v2 : Int32) =>
  (yI 11 h0 v1 0 v2).bind fun h5 =>
  (gR 10 h5 a0 38).bind fun v6 =>
  (xI 11 h5 v6 0).bind fun v7 =>
  (pI 10 h5 a0 0 v7).bind fun h8 =>
  (gR 10 h8 a0 38).bind fun v9 =>
  jn (fun (v10 : Int32) =>
   (yI 11 h8 v9 1 v10).bind fun h13 =>
   (gR 10 h13 a0 38).bind fun v14 =>
   (xI 11 h13 v14 1).bind fun v15 =>
   (pI 10 h13 a0 2 v15).bind fun h16 =>
   (gR 10 h16 a0 38).bind fun v17 =>
   jn (fun (v18 : Int32) =>
    (yI 11 h16 v17 2 v18).bind fun h21 =>
    (gR 10 h21 a0 38).bind fun v22 =>
    (xI 11 h21 v22 2).bind fun v23 =>
    (pI 10 h21 a0 3 v23).bind fun h24 =>
    (gR 10 h24 a0 38).bind fun v25 =>
    jn (fun (v26 : Int32) =>
     (yI 11 h24 v25 3 v26).bind fun h29 =>
     (gR 10 h29 a0 38).bind fun v30 =>
     (xI 11 h29 v30 3).bind fun v31 =>
     (pI 10 h29 a0 5 v31).bind fun h32 =>
     (gR 10 h32 a0 38).bind fun v33 =>
     jn (fun (v34 : Int32) =>
      (yI 11 h32 v33 4 v34).bind fun h37 =>
      (gR 10 h37 a0 38).bind fun v38 =>
      (xI 11 h37 v38 4).bind fun v39 =>
      (pI 10 h37 a0 7 v39).bind fun h40 =>
      (gR 10 h40 a0 38).bind fun v41 =>
      jn (fun (v42 : Int32) =>
       (yI 11 h40 v41 5 v42).bind fun h45 =>
       (gR 10 h45 a0 38).bind fun v46 =>
       (xI 11 h45 v46 5).bind fun v47 =>
       (pI 10 h45 a0 9 v47).bind fun h48 =>
       (gR 10 h48 a0 4).bind fun v49 =>
       if mKd h48 a0 = 10 then (fX10_laysRow a0 a1 v49 6 h48).bind (fun ((_u, h50) : Unit × Mem) =>
        (gR 10 h50 a0 6).bind fun v51 =>
        (gR 10 h50 a0 4).bind fun v52 =>
        (aLn h50 v52).bind fun v53 =>
        if mKd h50 a0 = 10 then (fX10_laysRow a0 a1 v51 (6 + v53) h50).bind (fun ((_u, h54) : Unit × Mem) =>
         (gR 10 h54 a0 8).bind fun v55 =>
         (gR 10 h54 a0 4).bind fun v56 =>
         (aLn h54 v56).bind fun v57 =>
         (gR 10 h54 a0 6).bind fun v58 =>
         (aLn h54 v58).bind fun v59 =>
         if mKd h54 a0 = 10 then (fX10_laysRow a0 a1 v55 ((6 + v57) + v59) h54).bind (fun ((_u, h60) : Unit × Mem) =>
          lpF (fun k63 ((v61, h62) : Int32 × Mem) =>
           if 5 ≤ v61 then
            some ((), h62)
           else
            (gR 10 h62 a0 37).bind fun v65 =>
            jn (fun (v66 : Int64) =>
             (yJ h62 v65 v61 v66).bind fun h69 =>
             (gR 10 h69 a0 1).bind fun v70 =>
             (gR 10 h69 a0 37).bind fun v71 =>
             (xJ h69 v71 v61).bind fun v72 =>
             (yJ h69 v70 v61 v72).bind fun h73 =>
             nm (v61 + 1 : Int32) fun v74 =>
             k63 (v74, h73)) (fun k67 =>
             if a1 = 0 then
              (gR 10 h62 a0 1).bind fun v77 =>
              (xJ h62 v77 v61).bind fun v78 =>
              k67 v78
             else
              (gR 10 h62 a0 37).bind fun v75 =>
              (xJ h62 v75 v61).bind fun v76 =>
              k67 v76)) FU (0, h60)) else none) else none) else none) (fun k43 =>
       if a1 = 0 then
        (gI 10 h40 a0 9).bind fun v83 =>
        k43 v83
       else
        (gR 10 h40 a0 38).bind fun v81 =>
        (xI 11 h40 v81 5).bind fun v82 =>
        k43 v82)) (fun k35 =>
      if a1 = 0 then
       (gI 10 h32 a0 7).bind fun v87 =>
       k35 v87
      else
       (gR 10 h32 a0 38).bind fun v85 =>
       (xI 11 h32 v85 4).bind fun v86 =>
       k35 v86)) (fun k27 =>
     if a1 = 0 then
      (gI 10 h24 a0 5).bind fun v91 =>
      k27 v91
     else
      (gR 10 h24 a0 38).bind fun v89 =>
      (xI 11 h24 v89 3).bind fun v90 =>
      k27 v90)) (fun k19 =>
    if a1 = 0 then
     (gI 10 h16 a0 3).bind fun v95 =>
     k19 v95
    else
     (gR 10 h16 a0 38).bind fun v93 =>
     (xI 11 h16 v93 2).bind fun v94 =>
     k19 v94)) (fun k11 =>
   if a1 = 0 then
    (gI 10 h8 a0 2).bind fun v99 =>
    k11 v99
   else
    (gR 10 h8 a0 38).bind fun v97 =>
    (xI 11 h8 v97 1).bind fun v98 =>
    k11 v98)) (fun k3 =>
  if a1 = 0 then
   (gI 10 h0 a0 0).bind fun v103 =>
   k3 v103
  else
   (gR 10 h0 a0 38).bind fun v101 =>
   (xI 11 h0 v101 0).bind fun v102 =>
   k3 v102)
noncomputable def fX10_image (a0 : Nat) (h0 : Mem) : Option (Int32 × Mem) :=
 (pI 10 h0 a0 36 1).bind fun h1 =>
 if mKd h1 a0 = 10 then (fX10_lays a0 0 h1).bind (fun ((_u, h2) : Unit × Mem) =>
  (gI 10 h2 a0 0).bind fun v3 =>
  some ((v3 : Int32), h2)) else none
noncomputable def fX10_undo (a0 : Nat) (h0 : Mem) : Option (Int32 × Mem) :=
 (gI 10 h0 a0 36).bind fun v1 =>
 if v1 = 0 then
  some (((-3) : Int32), h0)
 else
  if mKd h0 a0 = 10 then (fX10_lays a0 1 h0).bind (fun ((_u, h2) : Unit × Mem) =>
   (gI 10 h2 a0 0).bind fun v3 =>
   some ((v3 : Int32), h2)) else none
noncomputable def fX10_count (a0 : Nat) (a1 : Int32) (h0 : Mem) : Option (Int32 × Mem) :=
 if a1 = 0 then
  (gI 10 h0 a0 5).bind fun v2 =>
  some ((v2 : Int32), h0)
 else if a1 = 1 then
  (gI 10 h0 a0 7).bind fun v4 =>
  some ((v4 : Int32), h0)
 else if a1 = 2 then
  (gI 10 h0 a0 9).bind fun v6 =>
  some ((v6 : Int32), h0)
 else if a1 = 3 then
  (gI 10 h0 a0 29).bind fun v8 =>
  some ((v8 : Int32), h0)
 else 
  some (((-2) : Int32), h0)
noncomputable def fX10_tape (a0 : Nat) (a1 : Int32) (a2 : Int32) (a3 : Int32) (h0 : Mem) : Option (Int32 × Mem) :=
 (fX10_isTape a1 h0).bind (fun ((v2, h1) : Int32 × Mem) =>
  if v2 = 0 then
   some (((-1) : Int32), h1)
  else
   (fX10_in a2.toInt64 (-1) 4 h1).bind (fun ((v4, h3) : Int32 × Mem) =>
    if v4 = 0 then
     some (((-2) : Int32), h3)
    else
     jn (fun (_ : Unit) =>
      jn (fun (_ : Unit) =>
       (gR 10 h3 a0 33).bind fun v9 =>
       (yI 11 h3 v9 a1 a2).bind fun h10 =>
       (gR 10 h10 a0 34).bind fun v11 =>
       jn (fun (v12 : Int32) =>
        (yI 11 h10 v11 a1 v12).bind fun h15 =>
        lpF (fun k18 ((v16, h17) : Int32 × Mem) =>
         if 60 ≤ v16 then
          some ((1 : Int32), h17)
         else
          (gR 10 h17 a0 35).bind fun v20 =>
          (yJ h17 v20 ((60 * a1) + v16) 0).bind fun h21 =>
          nm (v16 + 1 : Int32) fun v22 =>
          k18 (v22, h21)) FU (0, h15)) (fun k13 =>
        if 0 ≤ a2 then
         k13 a3
        else
         k13 0)) (fun k7 =>
       if a2 < 0 then
        k7 ()
       else
        if 0 ≤ a3 then
         k7 ()
        else
         some (((-14) : Int32), h3))) (fun k5 =>
      if a2 < 0 then
       k5 ()
      else
       if a3 ≤ 60 then
        k5 ()
       else
        some (((-2) : Int32), h3))))
noncomputable def fX10_held (a0 : Int32) (a1 : Int64) (h0 : Mem) : Option (Int64 × Mem) :=
 if a0 = 0 then
  some ((a1.toInt32.toInt8.toInt32.toInt64 : Int64), h0)
 else
  if a0 = 1 then
   some ((a1.toInt32.toInt16.toInt32.toInt64 : Int64), h0)
  else
   if a0 = 2 then
    some ((a1.toInt32.toInt64 : Int64), h0)
   else
    if a0 = 3 then
     some ((a1 : Int64), h0)
    else
     if (lg_cmp a1 0) = 0 then
      some ((0 : Int64), h0)
     else
      some ((1 : Int64), h0)
noncomputable def fX10_item (a0 : Nat) (a1 : Int32) (a2 : Int32) (a3 : Int64) (h0 : Mem) : Option (Int32 × Mem) :=
 (fX10_isTape a1 h0).bind (fun ((v2, h1) : Int32 × Mem) =>
  if v2 = 0 then
   some (((-1) : Int32), h1)
  else
   (gR 10 h1 a0 33).bind fun v3 =>
   (xI 11 h1 v3 a1).bind fun v4 =>
   if 0 ≤ v4 then
    (gR 10 h1 a0 34).bind fun v5 =>
    (xI 11 h1 v5 a1).bind fun v6 =>
    (fX10_in a2.toInt64 0 ((v6 - 1).toInt64) h1).bind (fun ((v8, h7) : Int32 × Mem) =>
     if v8 = 0 then
      some (((-13) : Int32), h7)
     else
      (gR 10 h7 a0 35).bind fun v9 =>
      (gR 10 h7 a0 33).bind fun v10 =>
      (xI 11 h7 v10 a1).bind fun v11 =>
      (fX10_held v11 a3 h7).bind (fun ((v13, h12) : Int64 × Mem) =>
       (yJ h12 v9 ((60 * a1) + a2) v13).bind fun h14 =>
       some ((1 : Int32), h14)))
   else
    some (((-11) : Int32), h1))
noncomputable def fX10_peek (a0 : Nat) (a1 : Int32) (a2 : Int32) (h0 : Mem) : Option (Int64 × Mem) :=
 (fX10_isTape a1 h0).bind (fun ((v2, h1) : Int32 × Mem) =>
  if v2 = 0 then
   some (((-9223372036854775808) : Int64), h1)
  else
   (gR 10 h1 a0 34).bind fun v3 =>
   (xI 11 h1 v3 a1).bind fun v4 =>
   (fX10_in a2.toInt64 0 ((v4 - 1).toInt64) h1).bind (fun ((v6, h5) : Int32 × Mem) =>
    if v6 = 0 then
     some (((-9223372036854775808) : Int64), h5)
    else
     (gR 10 h5 a0 35).bind fun v7 =>
     (xJ h5 v7 ((60 * a1) + a2)).bind fun v8 =>
     some ((v8 : Int64), h5)))
noncomputable def fX10_areThere (a0 : Nat) (a1 : Int32) (a2 : Int32) (a3 : Int32) (h0 : Mem) : Option (Int32 × Mem) :=
 if a2 < 0 then
  some ((0 : Int32), h0)
 else
  (gR 10 h0 a0 34).bind fun v1 =>
  (xI 11 h0 v1 a1).bind fun v2 =>
  if (v2 - a2) < a3 then
   some ((0 : Int32), h0)
  else
   some ((1 : Int32), h0)
noncomputable def fX10_shift (a0 : Nat) (a1 : Int32) (a2 : Int32) (a3 : Int32) (a4 : Int32) (a5 : Int32) (h0 : Mem) : Option (Int32 × Mem) :=
 (fX10_isTape a1 h0).bind (fun ((v2, h1) : Int32 × Mem) =>
  if v2 = 0 then
   some (((-1) : Int32), h1)
  else
   (fX10_isTape a3 h1).bind (fun ((v4, h3) : Int32 × Mem) =>
    if v4 = 0 then
     some (((-1) : Int32), h3)
    else
     (gR 10 h3 a0 33).bind fun v5 =>
     (xI 11 h3 v5 a1).bind fun v6 =>
     if v6 < 0 then
      some (((-11) : Int32), h3)
     else
      (gR 10 h3 a0 33).bind fun v7 =>
      (xI 11 h3 v7 a3).bind fun v8 =>
      if 0 ≤ v8 then
       (gR 10 h3 a0 33).bind fun v9 =>
       (xI 11 h3 v9 a1).bind fun v10 =>
       (gR 10 h3 a0 33).bind fun v11 =>
       (xI 11 h3 v11 a3).bind fun v12 =>
       if v10 = v12 then
        if a5 < 0 then
         some (((-13) : Int32), h3)
        else
         if mKd h3 a0 = 10 then (fX10_areThere a0 a1 a2 a5 h3).bind (fun ((v14, h13) : Int32 × Mem) =>
          if v14 = 0 then
           some (((-13) : Int32), h13)
          else
           if mKd h13 a0 = 10 then (fX10_areThere a0 a3 a4 a5 h13).bind (fun ((v16, h15) : Int32 × Mem) =>
            if v16 = 0 then
             some (((-13) : Int32), h15)
            else
             lpF (fun k19 ((v17, h18) : Int32 × Mem) =>
              if a5 ≤ v17 then
               some ((a5 : Int32), h18)
              else
               jn (fun (v21 : Int32) =>
                (gR 10 h18 a0 35).bind fun v24 =>
                (gR 10 h18 a0 35).bind fun v25 =>
                (xJ h18 v25 (((60 * a1) + a2) + v21)).bind fun v26 =>
                (yJ h18 v24 (((60 * a3) + a4) + v21) v26).bind fun h27 =>
                nm (v17 + 1 : Int32) fun v28 =>
                k19 (v28, h27)) (fun k22 =>
                if a4 ≤ a2 then
                 k22 v17
                else
                 k22 ((a5 - 1) - v17))) FU (0, h15)) else none) else none
       else
        some (((-12) : Int32), h3)
      else
       some (((-11) : Int32), h3)))
