noncomputable def LW_b813 (xs : Nat → Int32) (L : Nat) (K18 : Int32 → Hp → Option (Int32 × Hp)) (x3 : Int32) (h : Hp) : Option (Int32 × Hp) :=
  K18 (x3 + (4 : Int32)) h
noncomputable def LW_b18 (xs : Nat → Int32) (L : Nat) (K18 : Int32 → Hp → Option (Int32 × Hp)) (x3 : Int32) (h : Hp) : Option (Int32 × Hp) :=
  if ((Int32.ofNat L) - (4 : Int32)) < x3 then
    some ((1 : Int32), h)
  else
    (lsc xs L x3).bind fun v2 =>
    if (v2 &&& (31 : Int32)) = (0 : Int32) then
      (lsc xs L (x3 + (1 : Int32))).bind fun v3 =>
      b2 (X4_type v3 h) fun v5 h4 =>
      (lsc xs L (x3 + (1 : Int32))).bind fun v6 =>
      b2 (X5_type v6 h4) fun v8 h7 =>
      if v5 = v8 then
        LW_b813 xs L K18 x3 h7
      else
        some ((0 : Int32), h7)
    else
    if (v2 &&& (31 : Int32)) = (1 : Int32) then
      b2 (X4_clear h) fun v11 h10 =>
      b2 (X5_clear h10) fun v13 h12 =>
      if v11 = v13 then
        LW_b813 xs L K18 x3 h12
      else
        some ((0 : Int32), h12)
    else
    if (v2 &&& (31 : Int32)) = (2 : Int32) then
      b2 (X4_card h) fun v16 h15 =>
      b2 (X5_card h15) fun v18 h17 =>
      if v16 = v18 then
        LW_b813 xs L K18 x3 h17
      else
        some ((0 : Int32), h17)
    else
    if (v2 &&& (31 : Int32)) = (3 : Int32) then
      (lsc xs L (x3 + (1 : Int32))).bind fun v20 =>
      b2 (X4_line v20 h) fun v22 h21 =>
      (lsc xs L (x3 + (1 : Int32))).bind fun v23 =>
      b2 (X5_line v23 h21) fun v25 h24 =>
      if v22 = v25 then
        LW_b813 xs L K18 x3 h24
      else
        some ((0 : Int32), h24)
    else
    if (v2 &&& (31 : Int32)) = (4 : Int32) then
      (lsc xs L (x3 + (1 : Int32))).bind fun v27 =>
      (lsc xs L (x3 + (2 : Int32))).bind fun v28 =>
      b2 (X4_word v27 v28 h) fun v30 h29 =>
      (lsc xs L (x3 + (1 : Int32))).bind fun v31 =>
      (lsc xs L (x3 + (2 : Int32))).bind fun v32 =>
      b2 (X5_word v31 v32 h29) fun v34 h33 =>
      if v30 = v34 then
        LW_b813 xs L K18 x3 h33
      else
        some ((0 : Int32), h33)
    else
    if (v2 &&& (31 : Int32)) = (5 : Int32) then
      b2 (X4_writes h) fun v37 h36 =>
      b2 (X5_writes h36) fun v39 h38 =>
      if v37 = v39 then
        LW_b813 xs L K18 x3 h38
      else
        some ((0 : Int32), h38)
    else
    if (v2 &&& (31 : Int32)) = (6 : Int32) then
      b2 (X4_signs h) fun v42 h41 =>
      b2 (X5_signs h41) fun v44 h43 =>
      if v42 = v44 then
        LW_b813 xs L K18 x3 h43
      else
        some ((0 : Int32), h43)
    else
    if (v2 &&& (31 : Int32)) = (7 : Int32) then
      b2 (X4_breaks h) fun v47 h46 =>
      b2 (X5_breaks h46) fun v49 h48 =>
      if v47 = v49 then
        LW_b813 xs L K18 x3 h48
      else
        some ((0 : Int32), h48)
    else
    if (v2 &&& (31 : Int32)) = (8 : Int32) then
      b2 (X4_omits h) fun v52 h51 =>
      b2 (X5_omits h51) fun v54 h53 =>
      if v52 = v54 then
        LW_b813 xs L K18 x3 h53
      else
        some ((0 : Int32), h53)
    else
    if (v2 &&& (31 : Int32)) = (9 : Int32) then
      (lsc xs L (x3 + (1 : Int32))).bind fun v56 =>
      b2 (X4_smaller v56 h) fun v58 h57 =>
      (lsc xs L (x3 + (1 : Int32))).bind fun v59 =>
      b2 (X5_smaller v59 h57) fun v61 h60 =>
      if v58 = v61 then
        LW_b813 xs L K18 x3 h60
      else
        some ((0 : Int32), h60)
    else
    if (v2 &&& (31 : Int32)) = (10 : Int32) then
      b2 (X4_turnsOver h) fun v64 h63 =>
      b2 (X5_turnsOver h63) fun v66 h65 =>
      if v64 = v66 then
        LW_b813 xs L K18 x3 h65
      else
        some ((0 : Int32), h65)
    else
    if (v2 &&& (31 : Int32)) = (11 : Int32) then
      b2 (X4_undo h) fun v69 h68 =>
      b2 (X5_undo h68) fun v71 h70 =>
      if v69 = v71 then
        LW_b813 xs L K18 x3 h70
      else
        some ((0 : Int32), h70)
    else
    if (v2 &&& (31 : Int32)) = (12 : Int32) then
      (lsc xs L (x3 + (1 : Int32))).bind fun v73 =>
      b2 (X4_now v73 h) fun v75 h74 =>
      (lsc xs L (x3 + (1 : Int32))).bind fun v76 =>
      b2 (X5_now v76 h74) fun v78 h77 =>
      if v75 = v78 then
        LW_b813 xs L K18 x3 h77
      else
        some ((0 : Int32), h77)
    else
    if (v2 &&& (31 : Int32)) = (13 : Int32) then
      (lsc xs L (x3 + (1 : Int32))).bind fun v80 =>
      (lsc xs L (x3 + (2 : Int32))).bind fun v81 =>
      (lsc xs L (x3 + (3 : Int32))).bind fun v82 =>
      b2 (X4_fill v80 v81 v82 h) fun v84 h83 =>
      (lsc xs L (x3 + (1 : Int32))).bind fun v85 =>
      (lsc xs L (x3 + (2 : Int32))).bind fun v86 =>
      (lsc xs L (x3 + (3 : Int32))).bind fun v87 =>
      b2 (X5_fill v85 v86 v87 h83) fun v89 h88 =>
      if v84 = v89 then
        LW_b813 xs L K18 x3 h88
      else
        some ((0 : Int32), h88)
    else
    if (v2 &&& (31 : Int32)) = (14 : Int32) then
      b2 (X4_greatest h) fun v92 h91 =>
      b2 (X5_greatest h91) fun v94 h93 =>
      if v92 = v94 then
        LW_b813 xs L K18 x3 h93
      else
        some ((0 : Int32), h93)
    else
    if (v2 &&& (31 : Int32)) = (15 : Int32) then
      (lsc xs L (x3 + (1 : Int32))).bind fun v96 =>
      b2 (X4_even v96 h) fun v98 h97 =>
      (lsc xs L (x3 + (1 : Int32))).bind fun v99 =>
      b2 (X5_even v99 h97) fun v101 h100 =>
      if v98 = v101 then
        LW_b813 xs L K18 x3 h100
      else
        some ((0 : Int32), h100)
    else
    if (v2 &&& (31 : Int32)) = (16 : Int32) then
      (lsc xs L (x3 + (1 : Int32))).bind fun v103 =>
      (lsc xs L (x3 + (2 : Int32))).bind fun v104 =>
      b2 (X4_kept v103 v104 h) fun v106 h105 =>
      (lsc xs L (x3 + (1 : Int32))).bind fun v107 =>
      (lsc xs L (x3 + (2 : Int32))).bind fun v108 =>
      b2 (X5_kept v107 v108 h105) fun v110 h109 =>
      if v106 = v110 then
        LW_b813 xs L K18 x3 h109
      else
        some ((0 : Int32), h109)
    else
    if (v2 &&& (31 : Int32)) = (17 : Int32) then
      (lsc xs L (x3 + (1 : Int32))).bind fun v112 =>
      (lsc xs L (x3 + (2 : Int32))).bind fun v113 =>
      b2 (X4_telegram v112 v113 h) fun v115 h114 =>
      (lsc xs L (x3 + (1 : Int32))).bind fun v116 =>
      (lsc xs L (x3 + (2 : Int32))).bind fun v117 =>
      b2 (X5_telegram v116 v117 h114) fun v119 h118 =>
      if v115 = v119 then
        LW_b813 xs L K18 x3 h118
      else
        some ((0 : Int32), h118)
    else
    if (v2 &&& (31 : Int32)) = (18 : Int32) then
      (lsc xs L (x3 + (1 : Int32))).bind fun v121 =>
      (lsc xs L (x3 + (2 : Int32))).bind fun v122 =>
      b2 (X4_begun v121 v122 h) fun v124 h123 =>
      (lsc xs L (x3 + (1 : Int32))).bind fun v125 =>
      (lsc xs L (x3 + (2 : Int32))).bind fun v126 =>
      b2 (X5_begun v125 v126 h123) fun v128 h127 =>
      if v124 = v128 then
        LW_b813 xs L K18 x3 h127
      else
        some ((0 : Int32), h127)
    else
    if (v2 &&& (31 : Int32)) = (19 : Int32) then
      (lsc xs L (x3 + (1 : Int32))).bind fun v130 =>
      (lsc xs L (x3 + (2 : Int32))).bind fun v131 =>
      (lsc xs L (x3 + (3 : Int32))).bind fun v132 =>
      b2 (X4_odds v130 v131 v132 h) fun v134 h133 =>
      (lsc xs L (x3 + (1 : Int32))).bind fun v135 =>
      (lsc xs L (x3 + (2 : Int32))).bind fun v136 =>
      (lsc xs L (x3 + (3 : Int32))).bind fun v137 =>
      b2 (X5_odds v135 v136 v137 h133) fun v139 h138 =>
      if (lg_cmp v134 v139) = 0 then
        LW_b813 xs L K18 x3 h138
      else
        some ((0 : Int32), h138)
    else
    if (v2 &&& (31 : Int32)) = (20 : Int32) then
      (lsc xs L (x3 + (1 : Int32))).bind fun v141 =>
      (lsc xs L (x3 + (2 : Int32))).bind fun v142 =>
      b2 (X4_saw v141 v142 h) fun v144 h143 =>
      (lsc xs L (x3 + (1 : Int32))).bind fun v145 =>
      (lsc xs L (x3 + (2 : Int32))).bind fun v146 =>
      b2 (X5_saw v145 v146 h143) fun v148 h147 =>
      if v144 = v148 then
        LW_b813 xs L K18 x3 h147
      else
        some ((0 : Int32), h147)
    else
    if (v2 &&& (31 : Int32)) = (21 : Int32) then
      b2 (X4_forget h) fun v151 h150 =>
      b2 (X5_forget h150) fun v153 h152 =>
      if v151 = v153 then
        LW_b813 xs L K18 x3 h152
      else
        some ((0 : Int32), h152)
    else
    if (v2 &&& (31 : Int32)) = (22 : Int32) then
      b2 (X4_sizes h) fun v156 h155 =>
      b2 (X5_sizes h155) fun v158 h157 =>
      if v156 = v158 then
        LW_b813 xs L K18 x3 h157
      else
        some ((0 : Int32), h157)
    else
    if (v2 &&& (31 : Int32)) = (23 : Int32) then
      (lsc xs L (x3 + (1 : Int32))).bind fun v160 =>
      b2 (X4_two v160 h) fun v162 h161 =>
      (lsc xs L (x3 + (1 : Int32))).bind fun v163 =>
      b2 (X5_two v163 h161) fun v165 h164 =>
      if v162 = v165 then
        LW_b813 xs L K18 x3 h164
      else
        some ((0 : Int32), h164)
    else
    if (v2 &&& (31 : Int32)) = (24 : Int32) then
      (lsc xs L (x3 + (1 : Int32))).bind fun v167 =>
      (lsc xs L (x3 + (2 : Int32))).bind fun v168 =>
      b2 (X4_mark v167 v168 h) fun v170 h169 =>
      (lsc xs L (x3 + (1 : Int32))).bind fun v171 =>
      (lsc xs L (x3 + (2 : Int32))).bind fun v172 =>
      b2 (X5_mark v171 v172 h169) fun v174 h173 =>
      if v170 = v174 then
        LW_b813 xs L K18 x3 h173
      else
        some ((0 : Int32), h173)
    else
    if (v2 &&& (31 : Int32)) = (25 : Int32) then
      (lsc xs L (x3 + (1 : Int32))).bind fun v176 =>
      b2 (X4_keep v176 h) fun v178 h177 =>
      (lsc xs L (x3 + (1 : Int32))).bind fun v179 =>
      b2 (X5_keep v179 h177) fun v181 h180 =>
      if v178 = v181 then
        LW_b813 xs L K18 x3 h180
      else
        some ((0 : Int32), h180)
    else
    if (v2 &&& (31 : Int32)) = (26 : Int32) then
      (lsc xs L (x3 + (1 : Int32))).bind fun v183 =>
      b2 (X4_back v183 h) fun v185 h184 =>
      (lsc xs L (x3 + (1 : Int32))).bind fun v186 =>
      b2 (X5_back v186 h184) fun v188 h187 =>
      if v185 = v188 then
        LW_b813 xs L K18 x3 h187
      else
        some ((0 : Int32), h187)
    else
    if (v2 &&& (31 : Int32)) = (27 : Int32) then
      (lsc xs L (x3 + (1 : Int32))).bind fun v190 =>
      b2 (X4_count v190 h) fun v192 h191 =>
      (lsc xs L (x3 + (1 : Int32))).bind fun v193 =>
      b2 (X5_count v193 h191) fun v195 h194 =>
      if v192 = v195 then
        LW_b813 xs L K18 x3 h194
      else
        some ((0 : Int32), h194)
    else
    if (v2 &&& (31 : Int32)) = (28 : Int32) then
      b2 (X4_trace h) fun v198 h197 =>
      b2 (X5_trace h197) fun v200 h199 =>
      if (lg_cmp v198 v200) = 0 then
        LW_b813 xs L K18 x3 h199
      else
        some ((0 : Int32), h199)
    else
      LW_b813 xs L K18 x3 h
noncomputable def LW_l18 (xs : Nat → Int32) (L : Nat) : Nat → Int32 → Hp → Option (Int32 × Hp) := itr (LW_b18 xs L) (fun _ _ => none)
