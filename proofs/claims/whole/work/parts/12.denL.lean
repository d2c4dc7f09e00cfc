noncomputable def fL_law (xs : Nat → Int32) (N : Nat) (h0 : Mem) : Option (Unit × Mem) :=
 nwO 9 9 h0 fun v1 h2 =>
 (fX9_init v1 h2).bind (fun ((_u, h3) : Unit × Mem) =>
  nwO 10 39 h3 fun v4 h5 =>
  (fX10_init v4 h5).bind (fun ((_u, h6) : Unit × Mem) =>
   lpF (fun k9 ((v7, h8) : Int32 × Mem) =>
    if ((Int32.ofNat N) - 6) < v7 then
     some ((), h8)
    else
     (xT xs N v7).bind fun v11 =>
     nm (v11 &&& 63 : Int32) fun v12 =>
     if v12 = 0 then
      (xT xs N (v7 + 1)).bind fun v14 =>
      if mKd h8 v1 = 9 then (fX9_degree v1 v14 h8).bind (fun ((v16, h15) : Int32 × Mem) =>
       (xT xs N (v7 + 1)).bind fun v17 =>
       if mKd h15 v4 = 10 then (fX10_degree v4 v17 h15).bind (fun ((v19, h18) : Int32 × Mem) =>
        if v16 = v19 then
         nm (v7 + 6 : Int32) fun v20 =>
         k9 (v20, h18)
        else
         none) else none) else none
     else if v12 = 1 then
      (xT xs N (v7 + 1)).bind fun v23 =>
      (xT xs N (v7 + 2)).bind fun v24 =>
      if mKd h8 v1 = 9 then (fX9_number v1 v23 v24 h8).bind (fun ((v26, h25) : Int32 × Mem) =>
       (xT xs N (v7 + 1)).bind fun v27 =>
       (xT xs N (v7 + 2)).bind fun v28 =>
       if mKd h25 v4 = 10 then (fX10_number v4 v27 v28 h25).bind (fun ((v30, h29) : Int32 × Mem) =>
        if v26 = v30 then
         nm (v7 + 6 : Int32) fun v31 =>
         k9 (v31, h29)
        else
         none) else none) else none
     else if v12 = 2 then
      (xT xs N (v7 + 1)).bind fun v34 =>
      if mKd h8 v1 = 9 then (fX9_equal v1 v34 h8).bind (fun ((v36, h35) : Int32 × Mem) =>
       (xT xs N (v7 + 1)).bind fun v37 =>
       if mKd h35 v4 = 10 then (fX10_equal v4 v37 h35).bind (fun ((v39, h38) : Int32 × Mem) =>
        if v36 = v39 then
         nm (v7 + 6 : Int32) fun v40 =>
         k9 (v40, h38)
        else
         none) else none) else none
     else if v12 = 3 then
      (xT xs N (v7 + 1)).bind fun v43 =>
      if mKd h8 v1 = 9 then (fX9_window v1 v43 h8).bind (fun ((v45, h44) : Int32 × Mem) =>
       (xT xs N (v7 + 1)).bind fun v46 =>
       if mKd h44 v4 = 10 then (fX10_window v4 v46 h44).bind (fun ((v48, h47) : Int32 × Mem) =>
        if v45 = v48 then
         nm (v7 + 6 : Int32) fun v49 =>
         k9 (v49, h47)
        else
         none) else none) else none
     else if v12 = 4 then
      (xT xs N (v7 + 1)).bind fun v52 =>
      if mKd h8 v1 = 9 then (fX9_move v1 v52 h8).bind (fun ((v54, h53) : Int32 × Mem) =>
       (xT xs N (v7 + 1)).bind fun v55 =>
       if mKd h53 v4 = 10 then (fX10_move v4 v55 h53).bind (fun ((v57, h56) : Int32 × Mem) =>
        if v54 = v57 then
         nm (v7 + 6 : Int32) fun v58 =>
         k9 (v58, h56)
        else
         none) else none) else none
     else if v12 = 5 then
      (xT xs N (v7 + 1)).bind fun v61 =>
      (xT xs N (v7 + 2)).bind fun v62 =>
      (xT xs N (v7 + 3)).bind fun v63 =>
      (xT xs N (v7 + 4)).bind fun v64 =>
      if mKd h8 v1 = 9 then (fX9_turn v1 v61 v62 v63 v64 h8).bind (fun ((v66, h65) : Int32 × Mem) =>
       (xT xs N (v7 + 1)).bind fun v67 =>
       (xT xs N (v7 + 2)).bind fun v68 =>
       (xT xs N (v7 + 3)).bind fun v69 =>
       (xT xs N (v7 + 4)).bind fun v70 =>
       if mKd h65 v4 = 10 then (fX10_turn v4 v67 v68 v69 v70 h65).bind (fun ((v72, h71) : Int32 × Mem) =>
        if v66 = v72 then
         nm (v7 + 6 : Int32) fun v73 =>
         k9 (v73, h71)
        else
         none) else none) else none
     else if v12 = 6 then
      (xT xs N (v7 + 1)).bind fun v76 =>
      if mKd h8 v1 = 9 then (fX9_feed v1 v76 h8).bind (fun ((v78, h77) : Int32 × Mem) =>
       (xT xs N (v7 + 1)).bind fun v79 =>
       if mKd h77 v4 = 10 then (fX10_feed v4 v79 h77).bind (fun ((v81, h80) : Int32 × Mem) =>
        if v78 = v81 then
         nm (v7 + 6 : Int32) fun v82 =>
         k9 (v82, h80)
        else
         none) else none) else none
     else if v12 = 7 then
      if mKd h8 v1 = 9 then (fX9_read v1 h8).bind (fun ((v86, h85) : Int32 × Mem) =>
       if mKd h85 v4 = 10 then (fX10_read v4 h85).bind (fun ((v88, h87) : Int32 × Mem) =>
        if v86 = v88 then
         nm (v7 + 6 : Int32) fun v89 =>
         k9 (v89, h87)
        else
         none) else none) else none
     else if v12 = 8 then
      (xT xs N (v7 + 1)).bind fun v92 =>
      if mKd h8 v1 = 9 then (fX9_of v1 v92 h8).bind (fun ((v94, h93) : Int32 × Mem) =>
       (xT xs N (v7 + 1)).bind fun v95 =>
       if mKd h93 v4 = 10 then (fX10_of v4 v95 h93).bind (fun ((v97, h96) : Int32 × Mem) =>
        if v94 = v97 then
         nm (v7 + 6 : Int32) fun v98 =>
         k9 (v98, h96)
        else
         none) else none) else none
     else if v12 = 9 then
      (xT xs N (v7 + 1)).bind fun v101 =>
      if mKd h8 v1 = 9 then (fX9_told v1 v101 h8).bind (fun ((v103, h102) : Int32 × Mem) =>
       (xT xs N (v7 + 1)).bind fun v104 =>
       if mKd h102 v4 = 10 then (fX10_told v4 v104 h102).bind (fun ((v106, h105) : Int32 × Mem) =>
        if v103 = v106 then
         nm (v7 + 6 : Int32) fun v107 =>
         k9 (v107, h105)
        else
         none) else none) else none
     else if v12 = 10 then
      (xT xs N (v7 + 1)).bind fun v110 =>
      (xT xs N (v7 + 2)).bind fun v111 =>
      if mKd h8 v1 = 9 then (fX9_value v1 v110 v111 h8).bind (fun ((v113, h112) : Int64 × Mem) =>
       (xT xs N (v7 + 1)).bind fun v114 =>
       (xT xs N (v7 + 2)).bind fun v115 =>
       if mKd h112 v4 = 10 then (fX10_value v4 v114 v115 h112).bind (fun ((v117, h116) : Int64 × Mem) =>
        if (lg_cmp v113 v117) = 0 then
         nm (v7 + 6 : Int32) fun v118 =>
         k9 (v118, h116)
        else
         none) else none) else none
     else if v12 = 11 then
      (xT xs N (v7 + 1)).bind fun v121 =>
      (xT xs N (v7 + 2)).bind fun v122 =>
      if mKd h8 v1 = 9 then (fX9_answer v1 v121 v122 h8).bind (fun ((v124, h123) : Int32 × Mem) =>
       (xT xs N (v7 + 1)).bind fun v125 =>
       (xT xs N (v7 + 2)).bind fun v126 =>
       if mKd h123 v4 = 10 then (fX10_answer v4 v125 v126 h123).bind (fun ((v128, h127) : Int32 × Mem) =>
        if v124 = v128 then
         nm (v7 + 6 : Int32) fun v129 =>
         k9 (v129, h127)
        else
         none) else none) else none
     else if v12 = 12 then
      (xT xs N (v7 + 1)).bind fun v132 =>
      (xT xs N (v7 + 2)).bind fun v133 =>
      if mKd h8 v1 = 9 then (fX9_prime v1 v132 v133 h8).bind (fun ((v135, h134) : Int32 × Mem) =>
       (xT xs N (v7 + 1)).bind fun v136 =>
       (xT xs N (v7 + 2)).bind fun v137 =>
       if mKd h134 v4 = 10 then (fX10_prime v4 v136 v137 h134).bind (fun ((v139, h138) : Int32 × Mem) =>
        if v135 = v139 then
         nm (v7 + 6 : Int32) fun v140 =>
         k9 (v140, h138)
        else
         none) else none) else none
     else if v12 = 13 then
      (xT xs N (v7 + 1)).bind fun v143 =>
      if mKd h8 v1 = 9 then (fX9_reason v1 v143 h8).bind (fun ((v145, h144) : Int32 × Mem) =>
       (xT xs N (v7 + 1)).bind fun v146 =>
       if mKd h144 v4 = 10 then (fX10_reason v4 v146 h144).bind (fun ((v148, h147) : Int32 × Mem) =>
        if v145 = v148 then
         nm (v7 + 6 : Int32) fun v149 =>
         k9 (v149, h147)
        else
         none) else none) else none
     else if v12 = 14 then
      (xT xs N (v7 + 1)).bind fun v152 =>
      (xT xs N (v7 + 2)).bind fun v153 =>
      if mKd h8 v1 = 9 then (fX9_unit v1 v152 v153 h8).bind (fun ((v155, h154) : Int32 × Mem) =>
       (xT xs N (v7 + 1)).bind fun v156 =>
       (xT xs N (v7 + 2)).bind fun v157 =>
       if mKd h154 v4 = 10 then (fX10_unit v4 v156 v157 h154).bind (fun ((v159, h158) : Int32 × Mem) =>
        if v155 = v159 then
         nm (v7 + 6 : Int32) fun v160 =>
         k9 (v160, h158)
        else
         none) else none) else none
     else if v12 = 15 then
      (xT xs N (v7 + 1)).bind fun v163 =>
      if mKd h8 v1 = 9 then (fX9_family v1 v163 h8).bind (fun ((v165, h164) : Int32 × Mem) =>
       (xT xs N (v7 + 1)).bind fun v166 =>
       if mKd h164 v4 = 10 then (fX10_family v4 v166 h164).bind (fun ((v168, h167) : Int32 × Mem) =>
        if v165 = v168 then
         nm (v7 + 6 : Int32) fun v169 =>
         k9 (v169, h167)
        else
         none) else none) else none
     else if v12 = 16 then
      (xT xs N (v7 + 1)).bind fun v172 =>
      if mKd h8 v1 = 9 then (fX9_part v1 v172 h8).bind (fun ((v174, h173) : Int32 × Mem) =>
       (xT xs N (v7 + 1)).bind fun v175 =>
       if mKd h173 v4 = 10 then (fX10_part v4 v175 h173).bind (fun ((v177, h176) : Int32 × Mem) =>
        if v174 = v177 then
         nm (v7 + 6 : Int32) fun v178 =>
         k9 (v178, h176)
        else
         none) else none) else none
     else if v12 = 17 then
      (xT xs N (v7 + 1)).bind fun v181 =>
      (xT xs N (v7 + 2)).bind fun v182 =>
      if mKd h8 v1 = 9 then (fX9_convergent v1 v181 v182 h8).bind (fun ((v184, h183) : Int64 × Mem) =>
       (xT xs N (v7 + 1)).bind fun v185 =>
       (xT xs N (v7 + 2)).bind fun v186 =>
       if mKd h183 v4 = 10 then (fX10_convergent v4 v185 v186 h183).bind (fun ((v188, h187) : Int64 × Mem) =>
        if (lg_cmp v184 v188) = 0 then
         nm (v7 + 6 : Int32) fun v189 =>
         k9 (v189, h187)
        else
         none) else none) else none
     else if v12 = 18 then
      (xT xs N (v7 + 1)).bind fun v192 =>
      (xT xs N (v7 + 2)).bind fun v193 =>
      (xT xs N (v7 + 3)).bind fun v194 =>
      if mKd h8 v1 = 9 then (fX9_see v1 v192 v193 v194 h8).bind (fun ((v196, h195) : Int32 × Mem) =>
       (xT xs N (v7 + 1)).bind fun v197 =>
       (xT xs N (v7 + 2)).bind fun v198 =>
       (xT xs N (v7 + 3)).bind fun v199 =>
       if mKd h195 v4 = 10 then (fX10_see v4 v197 v198 v199 h195).bind (fun ((v201, h200) : Int32 × Mem) =>
        if v196 = v201 then
         nm (v7 + 6 : Int32) fun v202 =>
         k9 (v202, h200)
        else
         none) else none) else none
     else if v12 = 19 then
      (xT xs N (v7 + 1)).bind fun v205 =>
      (xT xs N (v7 + 2)).bind fun v206 =>
      if mKd h8 v1 = 9 then (fX9_fits v1 v205 v206 h8).bind (fun ((v208, h207) : Int32 × Mem) =>
       (xT xs N (v7 + 1)).bind fun v209 =>
       (xT xs N (v7 + 2)).bind fun v210 =>
       if mKd h207 v4 = 10 then (fX10_fits v4 v209 v210 h207).bind (fun ((v212, h211) : Int32 × Mem) =>
        if v208 = v212 then
         nm (v7 + 6 : Int32) fun v213 =>
         k9 (v213, h211)
        else
         none) else none) else none
     else if v12 = 20 then
      (xT xs N (v7 + 1)).bind fun v216 =>
      if mKd h8 v1 = 9 then (fX9_odds v1 v216 h8).bind (fun ((v218, h217) : Int64 × Mem) =>
       (xT xs N (v7 + 1)).bind fun v219 =>
       if mKd h217 v4 = 10 then (fX10_odds v4 v219 h217).bind (fun ((v221, h220) : Int64 × Mem) =>
        if (lg_cmp v218 v221) = 0 then
         nm (v7 + 6 : Int32) fun v222 =>
         k9 (v222, h220)
        else
         none) else none) else none
     else if v12 = 21 then
      (xT xs N (v7 + 1)).bind fun v225 =>
      if mKd h8 v1 = 9 then (fX9_mean v1 v225 h8).bind (fun ((v227, h226) : Int64 × Mem) =>
       (xT xs N (v7 + 1)).bind fun v228 =>
       if mKd h226 v4 = 10 then (fX10_mean v4 v228 h226).bind (fun ((v230, h229) : Int64 × Mem) =>
        if (lg_cmp v227 v230) = 0 then
         nm (v7 + 6 : Int32) fun v231 =>
         k9 (v231, h229)
        else
         none) else none) else none
     else if v12 = 22 then
      (xT xs N (v7 + 1)).bind fun v234 =>
      (xT xs N (v7 + 2)).bind fun v235 =>
      if mKd h8 v1 = 9 then (fX9_event v1 v234 v235 h8).bind (fun ((v237, h236) : Int32 × Mem) =>
       (xT xs N (v7 + 1)).bind fun v238 =>
       (xT xs N (v7 + 2)).bind fun v239 =>
       if mKd h236 v4 = 10 then (fX10_event v4 v238 v239 h236).bind (fun ((v241, h240) : Int32 × Mem) =>
        if v237 = v241 then
         nm (v7 + 6 : Int32) fun v242 =>
         k9 (v242, h240)
        else
         none) else none) else none
     else if v12 = 23 then
      (xT xs N (v7 + 1)).bind fun v245 =>
      if mKd h8 v1 = 9 then (fX9_after v1 v245 h8).bind (fun ((v247, h246) : Int32 × Mem) =>
       (xT xs N (v7 + 1)).bind fun v248 =>
       if mKd h246 v4 = 10 then (fX10_after v4 v248 h246).bind (fun ((v250, h249) : Int32 × Mem) =>
        if v247 = v250 then
         nm (v7 + 6 : Int32) fun v251 =>
         k9 (v251, h249)
        else
         none) else none) else none
     else if v12 = 24 then
      (xT xs N (v7 + 1)).bind fun v254 =>
      (xT xs N (v7 + 2)).bind fun v255 =>
      if mKd h8 v1 = 9 then (fX9_book v1 v254 v255 h8).bind (fun ((v257, h256) : Int32 × Mem) =>
       (xT xs N (v7 + 1)).bind fun v258 =>
       (xT xs N (v7 + 2)).bind fun v259 =>
       if mKd h256 v4 = 10 then (fX10_book v4 v258 v259 h256).bind (fun ((v261, h260) : Int32 × Mem) =>
        if v257 = v261 then
         nm (v7 + 6 : Int32) fun v262 =>
         k9 (v262, h260)
        else
         none) else none) else none
     else if v12 = 25 then
      if mKd h8 v1 = 9 then (fX9_looked v1 h8).bind (fun ((v266, h265) : Int32 × Mem) =>
       if mKd h265 v4 = 10 then (fX10_looked v4 h265).bind (fun ((v268, h267) : Int32 × Mem) =>
        if v266 = v268 then
         nm (v7 + 6 : Int32) fun v269 =>
         k9 (v269, h267)
        else
         none) else none) else none
     else if v12 = 26 then
      (xT xs N (v7 + 1)).bind fun v272 =>
      (xT xs N (v7 + 2)).bind fun v273 =>
      if mKd h8 v1 = 9 then (fX9_judge v1 v272 v273 h8).bind (fun ((v275, h274) : Int32 × Mem) =>
       (xT xs N (v7 + 1)).bind fun v276 =>
       (xT xs N (v7 + 2)).bind fun v277 =>
       if mKd h274 v4 = 10 then (fX10_judge v4 v276 v277 h274).bind (fun ((v279, h278) : Int32 × Mem) =>
        if v275 = v279 then
         nm (v7 + 6 : Int32) fun v280 =>
         k9 (v280, h278)
        else
         none) else none) else none
     else if v12 = 27 then
      if mKd h8 v1 = 9 then (fX9_image v1 h8).bind (fun ((v284, h283) : Int32 × Mem) =>
       if mKd h283 v4 = 10 then (fX10_image v4 h283).bind (fun ((v286, h285) : Int32 × Mem) =>
        if v284 = v286 then
         nm (v7 + 6 : Int32) fun v287 =>
         k9 (v287, h285)
        else
         none) else none) else none
     else if v12 = 28 then
      if mKd h8 v1 = 9 then (fX9_undo v1 h8).bind (fun ((v291, h290) : Int32 × Mem) =>
       if mKd h290 v4 = 10 then (fX10_undo v4 h290).bind (fun ((v293, h292) : Int32 × Mem) =>
        if v291 = v293 then
         nm (v7 + 6 : Int32) fun v294 =>
         k9 (v294, h292)
        else
         none) else none) else none
     else if v12 = 29 then
      (xT xs N (v7 + 1)).bind fun v297 =>
      if mKd h8 v1 = 9 then (fX9_count v1 v297 h8).bind (fun ((v299, h298) : Int32 × Mem) =>
       (xT xs N (v7 + 1)).bind fun v300 =>
       if mKd h298 v4 = 10 then (fX10_count v4 v300 h298).bind (fun ((v302, h301) : Int32 × Mem) =>
        if v299 = v302 then
         nm (v7 + 6 : Int32) fun v303 =>
         k9 (v303, h301)
        else
         none) else none) else none
     else if v12 = 30 then
      (xT xs N (v7 + 1)).bind fun v306 =>
      (xT xs N (v7 + 2)).bind fun v307 =>
      (xT xs N (v7 + 3)).bind fun v308 =>
      if mKd h8 v1 = 9 then (fX9_tape v1 v306 v307 v308 h8).bind (fun ((v310, h309) : Int32 × Mem) =>
       (xT xs N (v7 + 1)).bind fun v311 =>
       (xT xs N (v7 + 2)).bind fun v312 =>
       (xT xs N (v7 + 3)).bind fun v313 =>
       if mKd h309 v4 = 10 then (fX10_tape v4 v311 v312 v313 h309).bind (fun ((v315, h314) : Int32 × Mem) =>
        if v310 = v315 then
         nm (v7 + 6 : Int32) fun v316 =>
         k9 (v316, h314)
        else
         none) else none) else none
     else if v12 = 31 then
      (xT xs N (v7 + 1)).bind fun v319 =>
      (xT xs N (v7 + 2)).bind fun v320 =>
      (xT xs N (v7 + 3)).bind fun v321 =>
      (xT xs N (v7 + 4)).bind fun v322 =>
      if mKd h8 v1 = 9 then (fX9_item v1 v319 v320 ((v321.toInt64 <<< ((32 : Int32).toInt64 &&& 63)) ||| (v322.toInt64 &&& 4294967295)) h8).bind (fun ((v324, h323) : Int32 × Mem) =>
       (xT xs N (v7 + 1)).bind fun v325 =>
       (xT xs N (v7 + 2)).bind fun v326 =>
       (xT xs N (v7 + 3)).bind fun v327 =>
       (xT xs N (v7 + 4)).bind fun v328 =>
       if mKd h323 v4 = 10 then (fX10_item v4 v325 v326 ((v327.toInt64 <<< ((32 : Int32).toInt64 &&& 63)) ||| (v328.toInt64 &&& 4294967295)) h323).bind (fun ((v330, h329) : Int32 × Mem) =>
        if v324 = v330 then
         nm (v7 + 6 : Int32) fun v331 =>
         k9 (v331, h329)
        else
         none) else none) else none
     else if v12 = 32 then
      (xT xs N (v7 + 1)).bind fun v334 =>
      (xT xs N (v7 + 2)).bind fun v335 =>
      if mKd h8 v1 = 9 then (fX9_peek v1 v334 v335 h8).bind (fun ((v337, h336) : Int64 × Mem) =>
       (xT xs N (v7 + 1)).bind fun v338 =>
       (xT xs N (v7 + 2)).bind fun v339 =>
       if mKd h336 v4 = 10 then (fX10_peek v4 v338 v339 h336).bind (fun ((v341, h340) : Int64 × Mem) =>
        if (lg_cmp v337 v341) = 0 then
         nm (v7 + 6 : Int32) fun v342 =>
         k9 (v342, h340)
        else
         none) else none) else none
     else if v12 = 33 then
      (xT xs N (v7 + 1)).bind fun v345 =>
      (xT xs N (v7 + 2)).bind fun v346 =>
      (xT xs N (v7 + 3)).bind fun v347 =>
      (xT xs N (v7 + 4)).bind fun v348 =>
      (xT xs N (v7 + 5)).bind fun v349 =>
      if mKd h8 v1 = 9 then (fX9_shift v1 v345 v346 v347 v348 v349 h8).bind (fun ((v351, h350) : Int32 × Mem) =>
       (xT xs N (v7 + 1)).bind fun v352 =>
       (xT xs N (v7 + 2)).bind fun v353 =>
       (xT xs N (v7 + 3)).bind fun v354 =>
       (xT xs N (v7 + 4)).bind fun v355 =>
       (xT xs N (v7 + 5)).bind fun v356 =>
       if mKd h350 v4 = 10 then (fX10_shift v4 v352 v353 v354 v355 v356 h350).bind (fun ((v358, h357) : Int32 × Mem) =>
        if v351 = v358 then
         nm (v7 + 6 : Int32) fun v359 =>
         k9 (v359, h357)
        else
         none) else none) else none
     else 
      nm (v7 + 6 : Int32) fun v361 =>
      k9 (v361, h8)) FU (0, h6)))
