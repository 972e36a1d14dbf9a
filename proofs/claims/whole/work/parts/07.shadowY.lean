noncomputable def X5_in (x0 : Int32) (x1 : Int32) (x2 : Int32) (h : Hp) : Option (Int32 × Hp) :=
  if x0 < x1 then
    some ((0 : Int32), h)
  else
    if x2 < x0 then
      some ((0 : Int32), h)
    else
      some ((1 : Int32), h)
noncomputable def X5_type (x1 : Int32) (h : Hp) : Option (Int32 × Hp) :=
  b2 (X5_in x1 (0 : Int32) (255 : Int32) h) fun v2 h1 =>
  if v2 = 0 then
    some ((-1 : Int32), h1)
  else
    if (h1.1 20 2) = (200 : Int32) then
      some ((-3 : Int32), h1)
    else
      (st h1 21 200 (h1.1 20 2) (vp_nar .byte x1.toInt8.toInt32)).bind fun h5 =>
      some (((h5.1 20 2) + (1 : Int32)), (sI h5 20 2 ((h5.1 20 2) + (1 : Int32))))
noncomputable def X5_clear (h : Hp) : Option (Int32 × Hp) :=
  some ((h.1 20 2), (sI h 20 2 (0 : Int32)))
noncomputable def X5_here (h : Hp) : Option (Int32 × Hp) :=
  if (h.1 20 2) ≤ (h.1 20 8) then
    some ((-1 : Int32), h)
  else
    (ld h 21 200 (h.1 20 8)).bind fun v2 =>
    some ((v2 &&& (255 : Int32)), h)
noncomputable def X5_next_b63 (K63 : Int32 → Hp → Option (Hp)) (x1 : Int32) (h : Hp) : Option (Hp) :=
  b2 (X5_here h) fun v26 h25 =>
  b2 (X5_in v26 (97 : Int32) (122 : Int32) h25) fun v28 h27 =>
  if v28 = 0 then
    if ((h27.1 20 8) - (h27.1 20 9)) = (1 : Int32) then
      some (sI h27 20 10 x1)
    else
      some (sI h27 20 10 (4 : Int32))
  else
    K63 x1 (sI h27 20 8 ((h27.1 20 8) + (1 : Int32)))
noncomputable def X5_next_l63 : Nat → Int32 → Hp → Option (Hp) := itr (X5_next_b63) (fun _ _ => none)
noncomputable def X5_next_b172 (K126 : Int32 → Hp → Option (Hp)) (x1 : Int32) (s1 : Int32) (h : Hp) : Option (Hp) :=
  K126 x1 (sI (sI h 20 11 s1) 20 8 ((h.1 20 8) + (1 : Int32)))
noncomputable def X5_next_b126 (K126 : Int32 → Hp → Option (Hp)) (x1 : Int32) (h : Hp) : Option (Hp) :=
  b2 (X5_here h) fun v15 h14 =>
  b2 (X5_in v15 (48 : Int32) (57 : Int32) h14) fun v17 h16 =>
  if v17 = 0 then
    if (99 : Int32) < (h16.1 20 11) then
      some (sI h16 20 10 (4 : Int32))
    else
      if x1 = (48 : Int32) then
        if ((h16.1 20 8) - (h16.1 20 9)) ≤ (1 : Int32) then
          some (sI h16 20 10 (1 : Int32))
        else
          some (sI h16 20 10 (4 : Int32))
      else
        some (sI h16 20 10 (1 : Int32))
  else
    if (h16.1 20 11) ≤ (99 : Int32) then
      b2 (X5_here h16) fun v24 h23 =>
      X5_next_b172 K126 x1 ((((10 : Int32) * (h16.1 20 11)) + v24) - (48 : Int32)) h23
    else
      X5_next_b172 K126 x1 (h16.1 20 11) h16
noncomputable def X5_next_l126 : Nat → Int32 → Hp → Option (Hp) := itr (X5_next_b126) (fun _ _ => none)
noncomputable def X5_next_b0 (K0 : Hp → Option (Hp)) (h : Hp) : Option (Hp) :=
  b2 (X5_here h) fun v2 h1 =>
  if v2 = (32 : Int32) then
    K0 (sI h1 20 8 ((h1.1 20 8) + (1 : Int32)))
  else
    b2 (X5_here (sI (sI h1 20 9 (h1.1 20 8)) 20 11 (0 : Int32))) fun v5 h4 =>
    if 0 ≤ v5 then
      b2 (X5_in v5 (97 : Int32) (122 : Int32) h4) fun v8 h7 =>
      if v8 = 0 then
        b2 (X5_in v5 (48 : Int32) (57 : Int32) h7) fun v11 h10 =>
        if v11 = 0 then
          if v5 = (59 : Int32) then
            some (sI (sI h10 20 8 ((h10.1 20 8) + (1 : Int32))) 20 10 (2 : Int32))
          else
            some (sI (sI h10 20 8 ((h10.1 20 8) + (1 : Int32))) 20 10 (4 : Int32))
        else
          X5_next_l126 fu v5 h10
      else
        X5_next_l63 fu v5 h7
    else
      some (sI h4 20 10 (3 : Int32))
noncomputable def X5_next_l0 : Nat → Hp → Option (Hp) := itr (X5_next_b0) (fun _ => none)
noncomputable def X5_next (h : Hp) : Option (Hp) :=
  X5_next_l0 fu h
noncomputable def X5_mayBe (x1 : Int32) (h : Hp) : Option (Int32 × Hp) :=
  if x1 = (108 : Int32) then
    if (6 : Int32) ≤ (h.1 22 1) then
      some ((0 : Int32), h)
    else
      some ((1 : Int32), h)
  else
  if x1 = (119 : Int32) then
    if (10 : Int32) ≤ (h.1 24 1) then
      some ((0 : Int32), h)
    else
      some ((1 : Int32), h)
  else
  if x1 = (122 : Int32) then
    if (h.1 20 13) = 0 then
      some ((1 : Int32), h)
    else
      some ((0 : Int32), h)
  else
    some ((0 : Int32), h)
noncomputable def X5_due (x1 : Int32) (h : Hp) : Option (Int32 × Hp) :=
  if (h.1 20 12) = (-9 : Int32) then
    if x1 = 0 then
      some ((h.1 20 11), (sI h 20 12 (h.1 20 9)))
    else
      (X5_next h).bind fun h3 =>
      some ((h.1 20 11), h3)
  else
    some ((h.1 20 11), h)
noncomputable def X5_number_b26 (s1 : Int32) (h : Hp) : Option (Int32 × Hp) :=
  b2 (X5_due s1 h) fun v6 h5 =>
  some (v6, h5)
noncomputable def X5_number_b25 (h : Hp) : Option (Int32 × Hp) :=
  X5_number_b26 (0 : Int32) h
noncomputable def X5_number (x1 : Int32) (x2 : Int32) (h : Hp) : Option (Int32 × Hp) :=
  if (h.1 20 10) = (1 : Int32) then
    b2 (X5_in (h.1 20 11) x1 x2 h) fun v3 h2 =>
    if v3 = 0 then
      X5_number_b25 h2
    else
      X5_number_b26 (1 : Int32) h2
  else
    X5_number_b25 h
noncomputable def X5_readRow_b133 (x2 : Int32) (x3 : Int32) (s1 : Int32) (s3 : Int32) (h : Hp) : Option (Hp) :=
  b2 (X5_due s3 h) fun v18 h17 =>
  (st h17 25 100 s1 v18).bind fun h19 =>
  b2 (X5_number (0 : Int32) (12 : Int32) h19) fun v21 h20 =>
  (st h20 25 100 (x2 + (3 : Int32)) v21).bind fun h22 =>
  b2 (X5_number (0 : Int32) (x3 - (1 : Int32)) h22) fun v24 h23 =>
  (st h23 25 100 (x2 + (4 : Int32)) v24).bind fun h25 =>
  some (sI h25 24 1 ((h25.1 24 1) + (1 : Int32)))
noncomputable def X5_readRow_b128 (x2 : Int32) (x3 : Int32) (s1 : Int32) (h : Hp) : Option (Hp) :=
  X5_readRow_b133 x2 x3 s1 (1 : Int32) h
noncomputable def X5_readRow_b132 (x2 : Int32) (x3 : Int32) (s1 : Int32) (h : Hp) : Option (Hp) :=
  X5_readRow_b133 x2 x3 s1 (0 : Int32) h
noncomputable def X5_readRow (x1 : Int32) (h : Hp) : Option (Hp) :=
  if x1 = (108 : Int32) then
    b2 (X5_number (1 : Int32) (60 : Int32) h) fun v15 h14 =>
    (st h14 23 12 ((6 : Int32) + (h.1 22 1)) v15).bind fun h16 =>
    some (sI h16 22 1 ((h16.1 22 1) + (1 : Int32)))
  else
    if x1 = (119 : Int32) then
      b2 (X5_number (1 : Int32) (12 : Int32) h) fun v6 h5 =>
      (st h5 25 100 (((50 : Int32) + ((5 : Int32) * (h.1 24 1))) + (0 : Int32)) v6).bind fun h7 =>
      b2 (X5_number (0 : Int32) (9 : Int32) h7) fun v9 h8 =>
      (st h8 25 100 (((50 : Int32) + ((5 : Int32) * (h.1 24 1))) + (1 : Int32)) v9).bind fun h10 =>
      if (h10.1 20 10) = (1 : Int32) then
        if (h10.1 20 11) < (h10.1 24 1) then
          X5_readRow_b128 ((50 : Int32) + ((5 : Int32) * (h.1 24 1))) v6 (((50 : Int32) + ((5 : Int32) * (h.1 24 1))) + (2 : Int32)) h10
        else
          if (h10.1 20 11) = (99 : Int32) then
            X5_readRow_b128 ((50 : Int32) + ((5 : Int32) * (h.1 24 1))) v6 (((50 : Int32) + ((5 : Int32) * (h.1 24 1))) + (2 : Int32)) h10
          else
            X5_readRow_b132 ((50 : Int32) + ((5 : Int32) * (h.1 24 1))) v6 (((50 : Int32) + ((5 : Int32) * (h.1 24 1))) + (2 : Int32)) h10
      else
        X5_readRow_b132 ((50 : Int32) + ((5 : Int32) * (h.1 24 1))) v6 (((50 : Int32) + ((5 : Int32) * (h.1 24 1))) + (2 : Int32)) h10
    else
      b2 (X5_number (1 : Int32) (5 : Int32) h) fun v4 h3 =>
      some (sI (sI h3 26 1 v4) 20 13 (1 : Int32))
noncomputable def X5_card_b110 (K43 : Int32 → Hp → Option (Int32 × Hp)) (x1 : Int32) (h : Hp) : Option (Int32 × Hp) :=
  K43 x1 h
noncomputable def X5_card_b103 (K43 : Int32 → Hp → Option (Int32 × Hp)) (x1 : Int32) (s1 : Int32) (h : Hp) : Option (Int32 × Hp) :=
  b2 (X5_due s1 h) fun v13 h12 =>
  X5_card_b110 K43 (x1 + (1 : Int32)) h12
noncomputable def X5_card_b262 (x1 : Int32) (s1 : Int32) (s2 : Int32) (h : Hp) : Option (Int32 × Hp) :=
  (st h 27 198 s1 s2).bind fun h21 =>
  some (x1, (sI (sI (sI (sI (sI (sI (sI h21 27 3 (5 : Int32)) 27 4 (0 : Int32)) 27 5 (0 : Int32)) 20 26 (0 : Int32)) 28 0 (0 : Int32)) 28 1 (0 : Int32)) 20 2 (0 : Int32)))
noncomputable def X5_card_b197 (K197 : Int32 → Int32 → Hp → Option (Int32 × Hp)) (x1 : Int32) (x2 : Int32) (h : Hp) : Option (Int32 × Hp) :=
  if (50 : Int32) ≤ x2 then
    if (h.1 22 0) ≤ 0 then
      X5_card_b262 x1 (2 : Int32) (0 : Int32) (sI (sI h 27 0 (0 : Int32)) 27 1 (0 : Int32))
    else
      X5_card_b262 x1 (2 : Int32) (h.1 23 0) (sI (sI h 27 0 (0 : Int32)) 27 1 (0 : Int32))
  else
    (ld h 25 100 ((50 : Int32) + x2)).bind fun v19 =>
    (st h 25 100 x2 v19).bind fun h20 =>
    K197 x1 (x2 + (1 : Int32)) h20
noncomputable def X5_card_l197 : Nat → Int32 → Int32 → Hp → Option (Int32 × Hp) := itr (X5_card_b197) (fun _ _ _ => none)
noncomputable def X5_card_b168 (K168 : Int32 → Int32 → Hp → Option (Int32 × Hp)) (x1 : Int32) (x2 : Int32) (h : Hp) : Option (Int32 × Hp) :=
  if (6 : Int32) ≤ x2 then
    X5_card_l197 fu x1 (0 : Int32) h
  else
    (ld h 23 12 ((6 : Int32) + x2)).bind fun v15 =>
    (st h 23 12 x2 v15).bind fun h16 =>
    K168 x1 (x2 + (1 : Int32)) h16
noncomputable def X5_card_l168 : Nat → Int32 → Int32 → Hp → Option (Int32 × Hp) := itr (X5_card_b168) (fun _ _ _ => none)
noncomputable def X5_card_b113 (x1 : Int32) (h : Hp) : Option (Int32 × Hp) :=
  if (h.1 20 12) = (-9 : Int32) then
    X5_card_l168 fu x1 (0 : Int32) (sI (sI (sI h 22 0 (h.1 22 1)) 24 0 (h.1 24 1)) 26 0 (h.1 26 1))
  else
    some (((-10 : Int32) - (h.1 20 12)), h)
noncomputable def X5_card_b43 (K43 : Int32 → Hp → Option (Int32 × Hp)) (x1 : Int32) (h : Hp) : Option (Int32 × Hp) :=
  if (h.1 20 12) = (-9 : Int32) then
    if (h.1 20 10) = (3 : Int32) then
      X5_card_b113 x1 h
    else
      b2 (X5_mayBe (h.1 20 10) h) fun v5 h4 =>
      b2 (X5_due v5 h4) fun v7 h6 =>
      if (h6.1 20 12) = (-9 : Int32) then
        (X5_readRow (h.1 20 10) h6).bind fun h9 =>
        if (h9.1 20 10) = (2 : Int32) then
          X5_card_b103 K43 x1 (1 : Int32) h9
        else
          X5_card_b103 K43 x1 (0 : Int32) h9
      else
        X5_card_b110 K43 x1 h6
  else
    X5_card_b113 x1 h
noncomputable def X5_card_l43 : Nat → Int32 → Hp → Option (Int32 × Hp) := itr (X5_card_b43) (fun _ _ => none)
noncomputable def X5_card (h : Hp) : Option (Int32 × Hp) :=
  (X5_next (sI (sI (sI (sI (sI (sI h 20 8 (0 : Int32)) 20 12 (-9 : Int32)) 20 13 (0 : Int32)) 22 1 (0 : Int32)) 24 1 (0 : Int32)) 26 1 (1 : Int32))).bind fun h1 =>
  X5_card_l43 fu (0 : Int32) h1
noncomputable def X5_isLine (x1 : Int32) (h : Hp) : Option (Int32 × Hp) :=
  b2 (X5_in x1 (0 : Int32) ((h.1 22 0) - (1 : Int32)) h) fun v2 h1 =>
  zb v2 h1
noncomputable def X5_line (x1 : Int32) (h : Hp) : Option (Int32 × Hp) :=
  b2 (X5_isLine x1 h) fun v2 h1 =>
  if v2 = 0 then
    some ((-1 : Int32), h1)
  else
    (ld h1 23 12 x1).bind fun v4 =>
    some (v4, h1)
noncomputable def X5_isPiece (x1 : Int32) (h : Hp) : Option (Int32 × Hp) :=
  b2 (X5_in x1 (0 : Int32) ((h.1 24 0) - (1 : Int32)) h) fun v2 h1 =>
  zb v2 h1
noncomputable def X5_of (x1 : Int32) (x2 : Int32) (h : Hp) : Option (Int32 × Hp) :=
  (ld h 25 100 (((5 : Int32) * x1) + x2)).bind fun v1 =>
  some (v1, h)
noncomputable def X5_word (x1 : Int32) (x2 : Int32) (h : Hp) : Option (Int32 × Hp) :=
  b2 (X5_isPiece x1 h) fun v2 h1 =>
  if v2 = 0 then
    some ((-1 : Int32), h1)
  else
    b2 (X5_in x2 (0 : Int32) (5 : Int32) h1) fun v5 h4 =>
    if v5 = 0 then
      some ((-1 : Int32), h4)
    else
      if x2 = (5 : Int32) then
        some ((((h4.1 27 4) >>> (x1 &&& 31)) &&& (1 : Int32)), h4)
      else
        b2 (X5_of x1 x2 h4) fun v9 h8 =>
        some (v9, h8)
noncomputable def X5_isNext (h : Hp) : Option (Int32 × Hp) :=
  if (h.1 24 0) ≤ (h.1 27 0) then
    some ((0 : Int32), h)
  else
    some ((1 : Int32), h)
noncomputable def X5_blank (h : Hp) : Option (Int32 × Hp) :=
  (ld h 23 12 (h.1 27 1)).bind fun v1 =>
  if (h.1 27 2) = v1 then
    some ((0 : Int32), h)
  else
    some ((1 : Int32), h)
noncomputable def X5_know_b55 (K55 : Int32 → Hp → Option (Hp)) (x1 : Int32) (h : Hp) : Option (Hp) :=
  if (5 : Int32) ≤ x1 then
    some (sI h 27 5 ((h.1 27 5) + (1 : Int32)))
  else
    (ld h 27 198 x1).bind fun v6 =>
    (st h 27 198 (((6 : Int32) + ((5 : Int32) * (h.1 27 5))) + x1) v6).bind fun h7 =>
    K55 (x1 + (1 : Int32)) h7
noncomputable def X5_know_l55 : Nat → Int32 → Hp → Option (Hp) := itr (X5_know_b55) (fun _ _ => none)
noncomputable def X5_know_b53 (h : Hp) : Option (Hp) :=
  X5_know_l55 fu (0 : Int32) h
noncomputable def X5_know_b13 (K13 : Int32 → Hp → Option (Hp)) (x1 : Int32) (h : Hp) : Option (Hp) :=
  if (55 : Int32) ≤ x1 then
    X5_know_b53 (sI h 27 5 ((h.1 27 5) - (1 : Int32)))
  else
    (ld h 27 198 ((11 : Int32) + x1)).bind fun v3 =>
    (st h 27 198 ((6 : Int32) + x1) v3).bind fun h4 =>
    K13 (x1 + (1 : Int32)) h4
noncomputable def X5_know_l13 : Nat → Int32 → Hp → Option (Hp) := itr (X5_know_b13) (fun _ _ => none)
noncomputable def X5_know (h : Hp) : Option (Hp) :=
  if (h.1 27 5) = (12 : Int32) then
    X5_know_l13 fu (0 : Int32) h
  else
    X5_know_b53 h
noncomputable def X5_put (x1 : Int32) (h : Hp) : Option (Int32 × Hp) :=
  b2 (X5_blank h) fun v2 h1 =>
  if ((x1 + v2) * (h1.1 27 3)) ≤ (h1.1 27 2) then
    (X5_know h1).bind fun h4 =>
    some (((h4.1 27 2) - ((x1 + v2) * (h1.1 27 3))), (sI (sI h4 27 2 ((h4.1 27 2) - ((x1 + v2) * (h1.1 27 3)))) 27 0 ((h4.1 27 0) + (1 : Int32))))
  else
    some ((-2 : Int32), h1)
noncomputable def X5_writes (h : Hp) : Option (Int32 × Hp) :=
  b2 (X5_isNext h) fun v2 h1 =>
  if v2 = 0 then
    some ((-2 : Int32), h1)
  else
    if (h1.1 22 0) ≤ 0 then
      some ((-2 : Int32), h1)
    else
      b2 (X5_of (h1.1 27 0) (0 : Int32) h1) fun v6 h5 =>
      b2 (X5_put v6 h5) fun v8 h7 =>
      some (v8, h7)
noncomputable def X5_signs (h : Hp) : Option (Int32 × Hp) :=
  b2 (X5_isNext h) fun v2 h1 =>
  if v2 = 0 then
    some ((-2 : Int32), h1)
  else
    if (h1.1 22 0) ≤ 0 then
      some ((-2 : Int32), h1)
    else
      b2 (X5_of (h1.1 27 0) (3 : Int32) h1) fun v6 h5 =>
      if v6 ≤ 0 then
        some ((-2 : Int32), h5)
      else
        b2 (X5_of (h5.1 27 0) (3 : Int32) h5) fun v9 h8 =>
        b2 (X5_put v9 h8) fun v11 h10 =>
        some (v11, h10)
noncomputable def X5_breaks (h : Hp) : Option (Int32 × Hp) :=
  b2 (X5_isNext h) fun v2 h1 =>
  if v2 = 0 then
    some ((-2 : Int32), h1)
  else
    b2 (X5_isLine ((h1.1 27 1) + (1 : Int32)) h1) fun v5 h4 =>
    if v5 = 0 then
      some ((-2 : Int32), h4)
    else
      b2 (X5_of (h4.1 27 0) (4 : Int32) h4) fun v8 h7 =>
      if v8 = 0 then
        some ((-2 : Int32), h7)
      else
        b2 (X5_of (h7.1 27 0) (4 : Int32) h7) fun v11 h10 =>
        b2 (X5_blank h10) fun v13 h12 =>
        b2 (X5_of (h12.1 27 0) (0 : Int32) h12) fun v15 h14 =>
        if (h14.1 27 2) < (((v11 + (1 : Int32)) + v13) * (h12.1 27 3)) then
          some ((-2 : Int32), h14)
        else
          (ld h14 23 12 ((h14.1 27 1) + (1 : Int32))).bind fun v17 =>
          if ((v15 - v11) * (h14.1 27 3)) ≤ v17 then
            (X5_know h14).bind fun h19 =>
            (ld (sI h19 27 1 ((h19.1 27 1) + (1 : Int32))) 23 12 ((h19.1 27 1) + (1 : Int32))).bind fun v20 =>
            some ((v20 - ((v15 - v11) * (h14.1 27 3))), (sI (sI (sI h19 27 1 ((h19.1 27 1) + (1 : Int32))) 27 2 (v20 - ((v15 - v11) * (h14.1 27 3)))) 27 0 ((h19.1 27 0) + (1 : Int32))))
          else
            some ((-2 : Int32), h14)
noncomputable def X5_manyOf_b4 (K4 : Int32 → Int32 → Int32 → Hp → Option (Int32 × Hp)) (x0 : Int32) (x1 : Int32) (x2 : Int32) (h : Hp) : Option (Int32 × Hp) :=
  if (10 : Int32) ≤ x2 then
    some (x1, h)
  else
    K4 x0 (x1 + ((x0 >>> (x2 &&& 31)) &&& (1 : Int32))) (x2 + (1 : Int32)) h
noncomputable def X5_manyOf_l4 : Nat → Int32 → Int32 → Int32 → Hp → Option (Int32 × Hp) := itr (X5_manyOf_b4) (fun _ _ _ _ => none)
noncomputable def X5_manyOf (x0 : Int32) (h : Hp) : Option (Int32 × Hp) :=
  X5_manyOf_l4 fu x0 (0 : Int32) (0 : Int32) h
noncomputable def X5_omits (h : Hp) : Option (Int32 × Hp) :=
  b2 (X5_isNext h) fun v2 h1 =>
  if v2 = 0 then
    some ((-2 : Int32), h1)
  else
    (X5_know h1).bind fun h4 =>
    b2 (X5_manyOf ((h4.1 27 4) ||| ((1 : Int32) <<< ((h4.1 27 0) &&& 31))) (sI (sI h4 27 4 ((h4.1 27 4) ||| ((1 : Int32) <<< ((h4.1 27 0) &&& 31)))) 27 0 ((h4.1 27 0) + (1 : Int32)))) fun v6 h5 =>
    some (v6, h5)
noncomputable def X5_smaller (x1 : Int32) (h : Hp) : Option (Int32 × Hp) :=
  b2 (X5_in x1 (1 : Int32) (5 : Int32) h) fun v2 h1 =>
  if v2 = 0 then
    some ((-1 : Int32), h1)
  else
    if (h1.1 27 3) ≤ x1 then
      some ((-2 : Int32), h1)
    else
      if (h1.1 26 0) ≤ x1 then
        (X5_know h1).bind fun h6 =>
        some ((h6.1 27 3), (sI h6 27 3 x1))
      else
        some ((-2 : Int32), h1)
noncomputable def X5_turnsOver (h : Hp) : Option (Int32 × Hp) :=
  b2 (X5_isLine ((h.1 27 1) + (1 : Int32)) h) fun v2 h1 =>
  if v2 = 0 then
    some ((-2 : Int32), h1)
  else
    (X5_know h1).bind fun h4 =>
    (ld (sI h4 27 1 ((h4.1 27 1) + (1 : Int32))) 23 12 ((h4.1 27 1) + (1 : Int32))).bind fun v5 =>
    some (((h4.1 27 1) + (1 : Int32)), (sI (sI h4 27 1 ((h4.1 27 1) + (1 : Int32))) 27 2 v5))
noncomputable def X5_undo_b24 (K24 : Int32 → Hp → Option (Int32 × Hp)) (x1 : Int32) (h : Hp) : Option (Int32 × Hp) :=
  if (5 : Int32) ≤ x1 then
    some ((h.1 27 5), h)
  else
    (ld h 27 198 (((6 : Int32) + ((5 : Int32) * (h.1 27 5))) + x1)).bind fun v3 =>
    (st h 27 198 x1 v3).bind fun h4 =>
    K24 (x1 + (1 : Int32)) h4
noncomputable def X5_undo_l24 : Nat → Int32 → Hp → Option (Int32 × Hp) := itr (X5_undo_b24) (fun _ _ => none)
noncomputable def X5_undo (h : Hp) : Option (Int32 × Hp) :=
  if (h.1 27 5) = 0 then
    some ((-2 : Int32), h)
  else
    X5_undo_l24 fu (0 : Int32) (sI h 27 5 ((h.1 27 5) - (1 : Int32)))
noncomputable def X5_isClear_b47 (K22 : Int32 → Int32 → Int32 → Hp → Option (Int32 × Hp)) (x2 : Int32) (x4 : Int32) (s0 : Int32) (h : Hp) : Option (Int32 × Hp) :=
  b2 (X5_of x4 (2 : Int32) h) fun v8 h7 =>
  K22 x2 s0 v8 h7
noncomputable def X5_isClear_b46 (K22 : Int32 → Int32 → Int32 → Hp → Option (Int32 × Hp)) (x2 : Int32) (x4 : Int32) (h : Hp) : Option (Int32 × Hp) :=
  X5_isClear_b47 K22 x2 x4 (0 : Int32) h
noncomputable def X5_isClear_b22 (K22 : Int32 → Int32 → Int32 → Hp → Option (Int32 × Hp)) (x2 : Int32) (x3 : Int32) (x4 : Int32) (h : Hp) : Option (Int32 × Hp) :=
  if x4 = (99 : Int32) then
    zb x3 h
  else
    if x3 = 0 then
      X5_isClear_b46 K22 x2 x4 h
    else
      if ((x2 >>> (x4 &&& 31)) &&& (1 : Int32)) = 0 then
        X5_isClear_b47 K22 x2 x4 (1 : Int32) h
      else
        X5_isClear_b46 K22 x2 x4 h
noncomputable def X5_isClear_l22 : Nat → Int32 → Int32 → Int32 → Hp → Option (Int32 × Hp) := itr (X5_isClear_b22) (fun _ _ _ _ => none)
noncomputable def X5_isClear_b13 (x1 : Int32) (x2 : Int32) (s0 : Int32) (h : Hp) : Option (Int32 × Hp) :=
  b2 (X5_of x1 (2 : Int32) h) fun v3 h2 =>
  X5_isClear_l22 fu x2 s0 v3 h2
noncomputable def X5_isClear (x1 : Int32) (x2 : Int32) (h : Hp) : Option (Int32 × Hp) :=
  if ((x2 >>> (x1 &&& 31)) &&& (1 : Int32)) = 0 then
    X5_isClear_b13 x1 x2 (1 : Int32) h
  else
    X5_isClear_b13 x1 x2 (0 : Int32) h
noncomputable def X5_sense_b36 (K4 : Int32 → Int32 → Hp → Option (Int32 × Hp)) (x2 : Int32) (s0 : Int32) (s1 : Int32) (h : Hp) : Option (Int32 × Hp) :=
  K4 (s0 ||| s1) (x2 + (1 : Int32)) h
noncomputable def X5_sense_b4 (K4 : Int32 → Int32 → Hp → Option (Int32 × Hp)) (x1 : Int32) (x2 : Int32) (h : Hp) : Option (Int32 × Hp) :=
  if (h.1 27 0) ≤ x2 then
    some (x1, h)
  else
    b2 (X5_isClear x2 (h.1 27 4) h) fun v3 h2 =>
    if v3 = 0 then
      X5_sense_b36 K4 x2 x1 (0 : Int32) h2
    else
      X5_sense_b36 K4 x2 x1 ((1 : Int32) <<< (x2 &&& 31)) h2
noncomputable def X5_sense_l4 : Nat → Int32 → Int32 → Hp → Option (Int32 × Hp) := itr (X5_sense_b4) (fun _ _ _ => none)
noncomputable def X5_sense (h : Hp) : Option (Int32 × Hp) :=
  X5_sense_l4 fu (0 : Int32) (0 : Int32) h
noncomputable def X5_sumOf_b5 (K5 : Int32 → Int32 → Int32 → Int32 → Hp → Option (Int32 × Hp)) (x1 : Int32) (x2 : Int32) (x3 : Int32) (x4 : Int32) (h : Hp) : Option (Int32 × Hp) :=
  if (h.1 24 0) ≤ x4 then
    some (x3, h)
  else
    b2 (X5_of x4 x2 h) fun v3 h2 =>
    K5 x1 x2 (x3 + (((x1 >>> (x4 &&& 31)) &&& (1 : Int32)) * v3)) (x4 + (1 : Int32)) h2
noncomputable def X5_sumOf_l5 : Nat → Int32 → Int32 → Int32 → Int32 → Hp → Option (Int32 × Hp) := itr (X5_sumOf_b5) (fun _ _ _ _ _ => none)
noncomputable def X5_sumOf (x1 : Int32) (x2 : Int32) (h : Hp) : Option (Int32 × Hp) :=
  X5_sumOf_l5 fu x1 x2 (0 : Int32) (0 : Int32) h
noncomputable def X5_now (x1 : Int32) (h : Hp) : Option (Int32 × Hp) :=
  if x1 = (0 : Int32) then
    (ld h 27 198 x1).bind fun v1 =>
    some (v1, h)
  else
  if x1 = (1 : Int32) then
    (ld h 27 198 x1).bind fun v2 =>
    some (v2, h)
  else
  if x1 = (2 : Int32) then
    (ld h 27 198 x1).bind fun v3 =>
    some (v3, h)
  else
  if x1 = (3 : Int32) then
    (ld h 27 198 x1).bind fun v4 =>
    some (v4, h)
  else
  if x1 = (4 : Int32) then
    (ld h 27 198 x1).bind fun v5 =>
    some (v5, h)
  else
  if x1 = (5 : Int32) then
    b2 (X5_sense h) fun v7 h6 =>
    some (v7, h6)
  else
  if x1 = (6 : Int32) then
    b2 (X5_sense h) fun v9 h8 =>
    b2 (X5_sumOf v9 (1 : Int32) h8) fun v11 h10 =>
    some (v11, h10)
  else
    some ((-1 : Int32), h)
noncomputable def X5_isSize (x1 : Int32) (h : Hp) : Option (Int32 × Hp) :=
  b2 (X5_in x1 (h.1 26 0) (5 : Int32) h) fun v2 h1 =>
  zb v2 h1
noncomputable def X5_all (h : Hp) : Option (Int32 × Hp) :=
  some ((((1 : Int32) <<< ((h.1 24 0) &&& 31)) - (1 : Int32)), h)
noncomputable def X5_allSizes_b2 (K2 : Int32 → Int32 → Hp → Option (Hp)) (x1 : Int32) (x2 : Int32) (h : Hp) : Option (Hp) :=
  if (6 : Int32) ≤ x2 then
    some (sI (sI h 20 17 (0 : Int32)) 20 18 (0 : Int32))
  else
    (st h 29 6 x2 x1).bind fun h2 =>
    K2 x1 (x2 + (1 : Int32)) h2
noncomputable def X5_allSizes_l2 : Nat → Int32 → Int32 → Hp → Option (Hp) := itr (X5_allSizes_b2) (fun _ _ _ => none)
noncomputable def X5_allSizes (x1 : Int32) (h : Hp) : Option (Hp) :=
  X5_allSizes_l2 fu x1 (0 : Int32) h
noncomputable def X5_wideOf_b24 (s0 : Int32) (h : Hp) : Option (Int32 × Hp) :=
  if 0 ≤ s0 then
    some (s0, h)
  else
    some ((0 : Int32), h)
noncomputable def X5_wideOf (x1 : Int32) (h : Hp) : Option (Int32 × Hp) :=
  if x1 = 0 then
    X5_wideOf_b24 ((h.1 23 0) - (h.1 20 17)) h
  else
    (ld h 23 12 x1).bind fun v2 =>
    X5_wideOf_b24 v2 h
noncomputable def X5_fillBy_b238 (K44 : Int32 → Int32 → Int32 → Int32 → Int32 → Hp → Option (Int32 × Hp)) (x1 : Int32) (x2 : Int32) (x3 : Int32) (x4 : Int32) (x5 : Int32) (h : Hp) : Option (Int32 × Hp) :=
  K44 x1 x2 x3 x4 (x5 + (1 : Int32)) h
noncomputable def X5_fillBy_b210 (K44 : Int32 → Int32 → Int32 → Int32 → Int32 → Hp → Option (Int32 × Hp)) (x1 : Int32) (x2 : Int32) (x3 : Int32) (x4 : Int32) (x5 : Int32) (h : Hp) : Option (Int32 × Hp) :=
  (st h 30 10 x5 x2).bind fun h14 =>
  X5_fillBy_b238 K44 x1 x2 x3 x4 x5 (sI (sI (sI h14 20 20 ((h14.1 20 20) + (1 : Int32))) 20 21 x2) 20 22 x3)
noncomputable def X5_fillBy_b179 (K44 : Int32 → Int32 → Int32 → Int32 → Int32 → Hp → Option (Int32 × Hp)) (x1 : Int32) (x2 : Int32) (x5 : Int32) (x6 : Int32) (h : Hp) : Option (Int32 × Hp) :=
  if x2 < (h.1 22 0) then
    b2 (X5_wideOf x2 h) fun v22 h21 =>
    (ld h21 29 6 x2).bind fun v23 =>
    X5_fillBy_b210 K44 x1 x2 (v22 - (x6 * v23)) (0 : Int32) x5 h21
  else
    some ((0 : Int32), h)
noncomputable def X5_fillBy_b146 (K44 : Int32 → Int32 → Int32 → Int32 → Int32 → Hp → Option (Int32 × Hp)) (K146 : Int32 → Int32 → Int32 → Int32 → Hp → Option (Int32 × Hp)) (x1 : Int32) (x2 : Int32) (x5 : Int32) (x6 : Int32) (h : Hp) : Option (Int32 × Hp) :=
  if (h.1 22 0) ≤ x2 then
    X5_fillBy_b179 K44 x1 x2 x5 x6 h
  else
    (ld h 29 6 x2).bind fun v16 =>
    b2 (X5_wideOf x2 h) fun v18 h17 =>
    if (x6 * v16) ≤ v18 then
      X5_fillBy_b179 K44 x1 x2 x5 x6 h17
    else
      K146 x1 (x2 + (1 : Int32)) x5 x6 h17
noncomputable def X5_fillBy_l146 (K44 : Int32 → Int32 → Int32 → Int32 → Int32 → Hp → Option (Int32 × Hp)) : Nat → Int32 → Int32 → Int32 → Int32 → Hp → Option (Int32 × Hp) := itr (X5_fillBy_b146 K44) (fun _ _ _ _ _ => none)
noncomputable def X5_fillBy_b145 (K44 : Int32 → Int32 → Int32 → Int32 → Int32 → Hp → Option (Int32 × Hp)) (x1 : Int32) (x5 : Int32) (x6 : Int32) (s0 : Int32) (h : Hp) : Option (Int32 × Hp) :=
  X5_fillBy_l146 K44 fu x1 s0 x5 x6 h
noncomputable def X5_fillBy_b133 (K44 : Int32 → Int32 → Int32 → Int32 → Int32 → Hp → Option (Int32 × Hp)) (x1 : Int32) (x2 : Int32) (x4 : Int32) (x5 : Int32) (x6 : Int32) (h : Hp) : Option (Int32 × Hp) :=
  if x4 = 0 then
    X5_fillBy_b145 K44 x1 x5 x6 (x2 + (1 : Int32)) h
  else
    X5_fillBy_b145 K44 x1 x5 x6 x2 h
noncomputable def X5_fillBy_b44 (K44 : Int32 → Int32 → Int32 → Int32 → Int32 → Hp → Option (Int32 × Hp)) (x1 : Int32) (x2 : Int32) (x3 : Int32) (x4 : Int32) (x5 : Int32) (h : Hp) : Option (Int32 × Hp) :=
  if (h.1 24 0) ≤ x5 then
    some ((1 : Int32), h)
  else
    if ((x1 >>> (x5 &&& 31)) &&& (1 : Int32)) = (1 : Int32) then
      b2 (X5_of x5 (0 : Int32) h) fun v7 h6 =>
      if (h6.1 22 0) ≤ x2 then
        X5_fillBy_b133 K44 x1 x2 x4 x5 (v7 + ((2 : Int32) * (((h6.1 20 18) >>> (x5 &&& 31)) &&& (1 : Int32)))) h6
      else
        if x4 = 0 then
          (ld h6 29 6 x2).bind fun v10 =>
          if x3 < (((v7 + ((2 : Int32) * (((h6.1 20 18) >>> (x5 &&& 31)) &&& (1 : Int32)))) + (1 : Int32)) * v10) then
            X5_fillBy_b133 K44 x1 x2 x4 x5 (v7 + ((2 : Int32) * (((h6.1 20 18) >>> (x5 &&& 31)) &&& (1 : Int32)))) h6
          else
            (ld h6 29 6 x2).bind fun v12 =>
            X5_fillBy_b210 K44 x1 x2 (x3 - (((v7 + ((2 : Int32) * (((h6.1 20 18) >>> (x5 &&& 31)) &&& (1 : Int32)))) + (1 : Int32)) * v12)) x4 x5 h6
        else
          X5_fillBy_b133 K44 x1 x2 x4 x5 (v7 + ((2 : Int32) * (((h6.1 20 18) >>> (x5 &&& 31)) &&& (1 : Int32)))) h6
    else
      X5_fillBy_b238 K44 x1 x2 x3 x4 x5 h
noncomputable def X5_fillBy_l44 : Nat → Int32 → Int32 → Int32 → Int32 → Int32 → Hp → Option (Int32 × Hp) := itr (X5_fillBy_b44) (fun _ _ _ _ _ _ => none)
noncomputable def X5_fillBy_b37 (x1 : Int32) (x2 : Int32) (s0 : Int32) (h : Hp) : Option (Int32 × Hp) :=
  X5_fillBy_l44 fu x1 x2 s0 (1 : Int32) (0 : Int32) h
noncomputable def X5_fillBy (x1 : Int32) (h : Hp) : Option (Int32 × Hp) :=
  if (h.1 22 0) ≤ 0 then
    X5_fillBy_b37 x1 (0 : Int32) (0 : Int32) (sI (sI (sI h 20 20 (0 : Int32)) 20 21 (-9 : Int32)) 20 22 (-9 : Int32))
  else
    b2 (X5_wideOf (0 : Int32) (sI (sI (sI h 20 20 (0 : Int32)) 20 21 (-9 : Int32)) 20 22 (-9 : Int32))) fun v3 h2 =>
    X5_fillBy_b37 x1 (0 : Int32) v3 h2
noncomputable def X5_fill (x1 : Int32) (x2 : Int32) (x3 : Int32) (h : Hp) : Option (Int32 × Hp) :=
  b2 (X5_isSize x1 h) fun v2 h1 =>
  if v2 = 0 then
    some ((-1 : Int32), h1)
  else
    b2 (X5_all h1) fun v5 h4 =>
    b2 (X5_in x2 (0 : Int32) v5 h4) fun v7 h6 =>
    if v7 = 0 then
      some ((-1 : Int32), h6)
    else
      b2 (X5_in x3 (0 : Int32) (1 : Int32) h6) fun v10 h9 =>
      if v10 = 0 then
        some ((-1 : Int32), h9)
      else
        (X5_allSizes x1 h9).bind fun h12 =>
        b2 (X5_fillBy x2 h12) fun v14 h13 =>
        if v14 = 0 then
          some ((-9 : Int32), h13)
        else
          if x3 = 0 then
            some ((h13.1 20 21), h13)
          else
            some ((h13.1 20 22), h13)
noncomputable def X5_goesOn (x1 : Int32) (x2 : Int32) (h : Hp) : Option (Int32 × Hp) :=
  (X5_allSizes x1 h).bind fun h1 =>
  b2 (X5_fillBy x2 h1) fun v3 h2 =>
  zb v3 h2
noncomputable def X5_greatest_b2 (K2 : Int32 → Hp → Option (Int32 × Hp)) (x1 : Int32) (h : Hp) : Option (Int32 × Hp) :=
  if x1 < (h.1 26 0) then
    some ((-9 : Int32), h)
  else
    b2 (X5_all h) fun v3 h2 =>
    b2 (X5_goesOn x1 v3 h2) fun v5 h4 =>
    if v5 = 0 then
      K2 (x1 + (-1 : Int32)) h4
    else
      some (x1, h4)
noncomputable def X5_greatest_l2 : Nat → Int32 → Hp → Option (Int32 × Hp) := itr (X5_greatest_b2) (fun _ _ => none)
noncomputable def X5_greatest (h : Hp) : Option (Int32 × Hp) :=
  X5_greatest_l2 fu (5 : Int32) h
noncomputable def X5_costOf_b131 (K51 : Int32 → Int32 → Hp → Option (Int32 × Hp)) (x3 : Int32) (x4 : Int32) (s0 : Int32) (h : Hp) : Option (Int32 × Hp) :=
  K51 (x3 + (s0 * s0)) (x4 + (1 : Int32)) h
noncomputable def X5_costOf_b105 (K51 : Int32 → Int32 → Hp → Option (Int32 × Hp)) (x3 : Int32) (x4 : Int32) (h : Hp) : Option (Int32 × Hp) :=
  if x4 = 0 then
    X5_costOf_b131 K51 x3 x4 (0 : Int32) h
  else
    (ld h 29 6 (x4 - (1 : Int32))).bind fun v11 =>
    (ld h 29 6 x4).bind fun v12 =>
    X5_costOf_b131 K51 x3 x4 (v11 - v12) h
noncomputable def X5_costOf_b51 (K51 : Int32 → Int32 → Hp → Option (Int32 × Hp)) (x3 : Int32) (x4 : Int32) (h : Hp) : Option (Int32 × Hp) :=
  if (h.1 22 0) ≤ x4 then
    some (x3, h)
  else
    (ld h 29 6 x4).bind fun v4 =>
    if v4 < (h.1 26 0) then
      some ((-9 : Int32), h)
    else
      if x4 ≤ 0 then
        X5_costOf_b105 K51 x3 x4 h
      else
        (ld h 29 6 x4).bind fun v7 =>
        (ld h 29 6 (x4 - (1 : Int32))).bind fun v8 =>
        if v7 ≤ v8 then
          X5_costOf_b105 K51 x3 x4 h
        else
          some ((-9 : Int32), h)
noncomputable def X5_costOf_l51 : Nat → Int32 → Int32 → Hp → Option (Int32 × Hp) := itr (X5_costOf_b51) (fun _ _ _ => none)
noncomputable def X5_costOf_b11 (K11 : Int32 → Int32 → Hp → Option (Int32 × Hp)) (x2 : Int32) (x3 : Int32) (h : Hp) : Option (Int32 × Hp) :=
  if x3 < 0 then
    X5_costOf_l51 fu (0 : Int32) (0 : Int32) (sI (sI h 20 17 (0 : Int32)) 20 18 (0 : Int32))
  else
    (st h 29 6 x3 ((5 : Int32) - (x2 - x2 / (5 : Int32) * (5 : Int32)))).bind fun h2 =>
    K11 (x2 / (5 : Int32)) (x3 + (-1 : Int32)) h2
noncomputable def X5_costOf_l11 : Nat → Int32 → Int32 → Hp → Option (Int32 × Hp) := itr (X5_costOf_b11) (fun _ _ _ => none)
noncomputable def X5_costOf (x1 : Int32) (h : Hp) : Option (Int32 × Hp) :=
  X5_costOf_l11 fu x1 ((h.1 22 0) - (1 : Int32)) h
noncomputable def X5_even_b126 (K45 : Int32 → Int32 → Int32 → Int32 → Hp → Option (Int32 × Hp)) (x1 : Int32) (x2 : Int32) (x3 : Int32) (x4 : Int32) (h : Hp) : Option (Int32 × Hp) :=
  K45 x1 x2 x3 (x4 + (1 : Int32)) h
noncomputable def X5_even_b95 (K45 : Int32 → Int32 → Int32 → Int32 → Hp → Option (Int32 × Hp)) (K95 : Int32 → Int32 → Int32 → Int32 → Int32 → Hp → Option (Int32 × Hp)) (x1 : Int32) (x2 : Int32) (x3 : Int32) (x4 : Int32) (x6 : Int32) (h : Hp) : Option (Int32 × Hp) :=
  if (h.1 22 0) ≤ x6 then
    X5_even_b126 K45 x1 x2 x3 x4 h
  else
    (ld h 29 6 x6).bind fun v21 =>
    (st h 31 6 x6 v21).bind fun h22 =>
    K95 x1 x2 x3 x4 (x6 + (1 : Int32)) h22
noncomputable def X5_even_l95 (K45 : Int32 → Int32 → Int32 → Int32 → Hp → Option (Int32 × Hp)) : Nat → Int32 → Int32 → Int32 → Int32 → Int32 → Hp → Option (Int32 × Hp) := itr (X5_even_b95 K45) (fun _ _ _ _ _ _ => none)
noncomputable def X5_even_b78 (K45 : Int32 → Int32 → Int32 → Int32 → Hp → Option (Int32 × Hp)) (x1 : Int32) (x2 : Int32) (x3 : Int32) (x4 : Int32) (x5 : Int32) (h : Hp) : Option (Int32 × Hp) :=
  b2 (X5_all h) fun v16 h15 =>
  b2 (X5_fillBy v16 h15) fun v18 h17 =>
  if v18 = 0 then
    X5_even_b126 K45 x1 x2 x3 x4 h17
  else
    X5_even_l95 K45 fu x1 x2 x5 x4 (0 : Int32) h17
noncomputable def X5_even_b45 (K45 : Int32 → Int32 → Int32 → Int32 → Hp → Option (Int32 × Hp)) (x1 : Int32) (x2 : Int32) (x3 : Int32) (x4 : Int32) (h : Hp) : Option (Int32 × Hp) :=
  if x2 ≤ x4 then
    if x3 = (-9 : Int32) then
      some (x3, h)
    else
      if x1 = (-1 : Int32) then
        some (x3, h)
      else
        (ld h 31 6 x1).bind fun v9 =>
        some (v9, h)
  else
    b2 (X5_costOf x4 h) fun v11 h10 =>
    if v11 = (-9 : Int32) then
      X5_even_b126 K45 x1 x2 x3 x4 h10
    else
      if x3 = (-9 : Int32) then
        X5_even_b78 K45 x1 x2 x3 x4 v11 h10
      else
        if x3 ≤ v11 then
          X5_even_b126 K45 x1 x2 x3 x4 h10
        else
          X5_even_b78 K45 x1 x2 x3 x4 v11 h10
noncomputable def X5_even_l45 : Nat → Int32 → Int32 → Int32 → Int32 → Hp → Option (Int32 × Hp) := itr (X5_even_b45) (fun _ _ _ _ _ => none)
noncomputable def X5_even_b19 (K19 : Int32 → Int32 → Int32 → Hp → Option (Int32 × Hp)) (x1 : Int32) (x2 : Int32) (x3 : Int32) (h : Hp) : Option (Int32 × Hp) :=
  if (h.1 22 0) ≤ x3 then
    X5_even_l45 fu x1 x2 (-9 : Int32) (0 : Int32) h
  else
    K19 x1 (x2 * (5 : Int32)) (x3 + (1 : Int32)) h
noncomputable def X5_even_l19 : Nat → Int32 → Int32 → Int32 → Hp → Option (Int32 × Hp) := itr (X5_even_b19) (fun _ _ _ _ => none)
noncomputable def X5_even_b15 (x1 : Int32) (h : Hp) : Option (Int32 × Hp) :=
  X5_even_l19 fu x1 (1 : Int32) (0 : Int32) h
noncomputable def X5_even (x1 : Int32) (h : Hp) : Option (Int32 × Hp) :=
  if x1 = (-1 : Int32) then
    X5_even_b15 x1 h
  else
    b2 (X5_isLine x1 h) fun v3 h2 =>
    if v3 = 0 then
      some ((-1 : Int32), h2)
    else
      X5_even_b15 x1 h2
noncomputable def X5_hasNeeds_b56 (K4 : Int32 → Int32 → Int32 → Hp → Option (Int32 × Hp)) (x1 : Int32) (x3 : Int32) (s0 : Int32) (h : Hp) : Option (Int32 × Hp) :=
  K4 x1 s0 (x3 + (1 : Int32)) h
noncomputable def X5_hasNeeds_b51 (K4 : Int32 → Int32 → Int32 → Hp → Option (Int32 × Hp)) (x1 : Int32) (x3 : Int32) (h : Hp) : Option (Int32 × Hp) :=
  X5_hasNeeds_b56 K4 x1 x3 (1 : Int32) h
noncomputable def X5_hasNeeds_b55 (K4 : Int32 → Int32 → Int32 → Hp → Option (Int32 × Hp)) (x1 : Int32) (x3 : Int32) (h : Hp) : Option (Int32 × Hp) :=
  X5_hasNeeds_b56 K4 x1 x3 (0 : Int32) h
noncomputable def X5_hasNeeds_b4 (K4 : Int32 → Int32 → Int32 → Hp → Option (Int32 × Hp)) (x1 : Int32) (x2 : Int32) (x3 : Int32) (h : Hp) : Option (Int32 × Hp) :=
  if (h.1 24 0) ≤ x3 then
    zb x2 h
  else
    b2 (X5_of x3 (2 : Int32) h) fun v3 h2 =>
    if x2 = 0 then
      X5_hasNeeds_b55 K4 x1 x3 h2
    else
      if ((x1 >>> (x3 &&& 31)) &&& (1 : Int32)) = 0 then
        X5_hasNeeds_b51 K4 x1 x3 h2
      else
        if v3 = (99 : Int32) then
          X5_hasNeeds_b51 K4 x1 x3 h2
        else
          if ((x1 >>> (v3 &&& 31)) &&& (1 : Int32)) = (1 : Int32) then
            X5_hasNeeds_b51 K4 x1 x3 h2
          else
            X5_hasNeeds_b55 K4 x1 x3 h2
noncomputable def X5_hasNeeds_l4 : Nat → Int32 → Int32 → Int32 → Hp → Option (Int32 × Hp) := itr (X5_hasNeeds_b4) (fun _ _ _ _ => none)
noncomputable def X5_hasNeeds (x1 : Int32) (h : Hp) : Option (Int32 × Hp) :=
  X5_hasNeeds_l4 fu x1 (1 : Int32) (0 : Int32) h
noncomputable def X5_bestSet_b105 (K5 : Int32 → Int32 → Int32 → Int32 → Hp → Option (Int32 × Hp)) (x1 : Int32) (x2 : Int32) (x3 : Int32) (x4 : Int32) (h : Hp) : Option (Int32 × Hp) :=
  K5 x1 x2 x3 (x4 + (1 : Int32)) h
noncomputable def X5_bestSet_b102 (K5 : Int32 → Int32 → Int32 → Int32 → Hp → Option (Int32 × Hp)) (x1 : Int32) (x2 : Int32) (x4 : Int32) (h : Hp) : Option (Int32 × Hp) :=
  X5_bestSet_b105 K5 x1 x2 x4 x4 h
noncomputable def X5_bestSet_b61 (K5 : Int32 → Int32 → Int32 → Int32 → Hp → Option (Int32 × Hp)) (x1 : Int32) (x2 : Int32) (x3 : Int32) (x4 : Int32) (s0 : Int32) (h : Hp) : Option (Int32 × Hp) :=
  if s0 = 0 then
    X5_bestSet_b105 K5 x1 x2 x3 x4 h
  else
    b2 (X5_manyOf x4 h) fun v17 h16 =>
    if x1 < v17 then
      X5_bestSet_b105 K5 x1 x2 x3 x4 h16
    else
      b2 (X5_hasNeeds x4 h16) fun v20 h19 =>
      if v20 = 0 then
        X5_bestSet_b105 K5 x1 x2 x3 x4 h19
      else
        if x2 = (-9 : Int32) then
          X5_bestSet_b102 K5 x1 x2 x4 h19
        else
          b2 (X5_goesOn x2 x4 h19) fun v24 h23 =>
          if v24 = 0 then
            X5_bestSet_b105 K5 x1 x2 x3 x4 h23
          else
            X5_bestSet_b102 K5 x1 x2 x4 h23
noncomputable def X5_bestSet_b56 (K5 : Int32 → Int32 → Int32 → Int32 → Hp → Option (Int32 × Hp)) (x1 : Int32) (x2 : Int32) (x3 : Int32) (x4 : Int32) (h : Hp) : Option (Int32 × Hp) :=
  X5_bestSet_b61 K5 x1 x2 x3 x4 (1 : Int32) h
noncomputable def X5_bestSet_b60 (K5 : Int32 → Int32 → Int32 → Int32 → Hp → Option (Int32 × Hp)) (x1 : Int32) (x2 : Int32) (x3 : Int32) (x4 : Int32) (h : Hp) : Option (Int32 × Hp) :=
  X5_bestSet_b61 K5 x1 x2 x3 x4 (0 : Int32) h
noncomputable def X5_bestSet_b5 (K5 : Int32 → Int32 → Int32 → Int32 → Hp → Option (Int32 × Hp)) (x1 : Int32) (x2 : Int32) (x3 : Int32) (x4 : Int32) (h : Hp) : Option (Int32 × Hp) :=
  b2 (X5_all h) fun v2 h1 =>
  if v2 < x4 then
    some (x3, h1)
  else
    b2 (X5_sumOf x4 (1 : Int32) h1) fun v5 h4 =>
    b2 (X5_sumOf x3 (1 : Int32) h4) fun v7 h6 =>
    if 0 < (v5 - v7) then
      X5_bestSet_b56 K5 x1 x2 x3 x4 h6
    else
      if (v5 - v7) = 0 then
        b2 (X5_sumOf x4 (0 : Int32) h6) fun v11 h10 =>
        b2 (X5_sumOf x3 (0 : Int32) h10) fun v13 h12 =>
        if v13 ≤ v11 then
          X5_bestSet_b60 K5 x1 x2 x3 x4 h12
        else
          X5_bestSet_b56 K5 x1 x2 x3 x4 h12
      else
        X5_bestSet_b60 K5 x1 x2 x3 x4 h6
noncomputable def X5_bestSet_l5 : Nat → Int32 → Int32 → Int32 → Int32 → Hp → Option (Int32 × Hp) := itr (X5_bestSet_b5) (fun _ _ _ _ _ => none)
noncomputable def X5_bestSet (x1 : Int32) (x2 : Int32) (h : Hp) : Option (Int32 × Hp) :=
  X5_bestSet_l5 fu x1 x2 (0 : Int32) (1 : Int32) h
noncomputable def X5_kept (x1 : Int32) (x2 : Int32) (h : Hp) : Option (Int32 × Hp) :=
  b2 (X5_isSize x1 h) fun v2 h1 =>
  if v2 = 0 then
    some ((-1 : Int32), h1)
  else
    b2 (X5_in x2 (0 : Int32) (1 : Int32) h1) fun v5 h4 =>
    if v5 = 0 then
      some ((-1 : Int32), h4)
    else
      b2 (X5_bestSet (10 : Int32) x1 h4) fun v8 h7 =>
      if x2 = 0 then
        b2 (X5_sumOf v8 (1 : Int32) h7) fun v11 h10 =>
        some (v11, h10)
      else
        some (v8, h7)
noncomputable def X5_telegram (x1 : Int32) (x2 : Int32) (h : Hp) : Option (Int32 × Hp) :=
  b2 (X5_in x1 (0 : Int32) (10 : Int32) h) fun v2 h1 =>
  if v2 = 0 then
    some ((-1 : Int32), h1)
  else
    b2 (X5_in x2 (0 : Int32) (1 : Int32) h1) fun v5 h4 =>
    if v5 = 0 then
      some ((-1 : Int32), h4)
    else
      b2 (X5_bestSet x1 (-9 : Int32) h4) fun v8 h7 =>
      if x2 = 0 then
        b2 (X5_sumOf v8 (1 : Int32) h7) fun v11 h10 =>
        some (v11, h10)
      else
        some (v8, h7)
noncomputable def X5_begun (x1 : Int32) (x2 : Int32) (h : Hp) : Option (Int32 × Hp) :=
  b2 (X5_isSize x1 h) fun v2 h1 =>
  if v2 = 0 then
    some ((-1 : Int32), h1)
  else
    b2 (X5_in x2 (0 : Int32) (60 : Int32) h1) fun v5 h4 =>
    if v5 = 0 then
      some ((-1 : Int32), h4)
    else
      (X5_allSizes x1 h4).bind fun h7 =>
      b2 (X5_all (sI h7 20 17 x2)) fun v9 h8 =>
      b2 (X5_fillBy v9 h8) fun v11 h10 =>
      some ((h10.1 20 20), h10)
noncomputable def X5_odds_b106 (K76 : Int32 → Int32 → Int32 → Int32 → Int64 → Int32 → Int64 → Int32 → Hp → Option (Int64 × Hp)) (x1 : Int32) (x2 : Int32) (x3 : Int32) (x4 : Int32) (x5 : Int64) (x7 : Int32) (x10 : Int32) (s0 : Int64) (s1 : Int64) (h : Hp) : Option (Int64 × Hp) :=
  K76 x1 x2 x3 x4 x5 x7 (s0 * s1) (x10 + (1 : Int32)) h
noncomputable def X5_odds_b152 (K61 : Int32 → Int32 → Int32 → Int32 → Int64 → Int32 → Hp → Option (Int64 × Hp)) (x1 : Int32) (x2 : Int32) (x3 : Int32) (x4 : Int32) (x7 : Int32) (s0 : Int64) (s1 : Int64) (h : Hp) : Option (Int64 × Hp) :=
  K61 x1 x2 x3 x4 (s0 + s1) (x7 + (1 : Int32)) h
noncomputable def X5_odds_b151 (K61 : Int32 → Int32 → Int32 → Int32 → Int64 → Int32 → Hp → Option (Int64 × Hp)) (x1 : Int32) (x2 : Int32) (x3 : Int32) (x4 : Int32) (x7 : Int32) (s0 : Int64) (h : Hp) : Option (Int64 × Hp) :=
  X5_odds_b152 K61 x1 x2 x3 x4 x7 s0 (0 : Int64) h
noncomputable def X5_odds_b76 (K61 : Int32 → Int32 → Int32 → Int32 → Int64 → Int32 → Hp → Option (Int64 × Hp)) (K76 : Int32 → Int32 → Int32 → Int32 → Int64 → Int32 → Int64 → Int32 → Hp → Option (Int64 × Hp)) (x1 : Int32) (x2 : Int32) (x3 : Int32) (x4 : Int32) (x5 : Int64) (x7 : Int32) (x8 : Int64) (x10 : Int32) (h : Hp) : Option (Int64 × Hp) :=
  if x4 ≤ x10 then
    (X5_allSizes x1 h).bind fun h14 =>
    if (lg_cmp x8 (0 : Int64)) ≤ 0 then
      X5_odds_b151 K61 x1 x2 x3 x4 x7 x5 (sI h14 20 18 x7)
    else
      b2 (X5_all (sI h14 20 18 x7)) fun v17 h16 =>
      b2 (X5_fillBy v17 h16) fun v19 h18 =>
      if v19 = 0 then
        X5_odds_b151 K61 x1 x2 x3 x4 x7 x5 h18
      else
        X5_odds_b152 K61 x1 x2 x3 x4 x7 x5 x8 h18
  else
    if ((x7 >>> (x10 &&& 31)) &&& (1 : Int32)) = (1 : Int32) then
      X5_odds_b106 K76 x1 x2 x3 x4 x5 x7 x10 x8 x2.toInt64 h
    else
      X5_odds_b106 K76 x1 x2 x3 x4 x5 x7 x10 x8 (((10 : Int32) - x2).toInt64) h
noncomputable def X5_odds_l76 (K61 : Int32 → Int32 → Int32 → Int32 → Int64 → Int32 → Hp → Option (Int64 × Hp)) : Nat → Int32 → Int32 → Int32 → Int32 → Int64 → Int32 → Int64 → Int32 → Hp → Option (Int64 × Hp) := itr (X5_odds_b76 K61) (fun _ _ _ _ _ _ _ _ _ => none)
noncomputable def X5_odds_b196 (K196 : Int32 → Int64 → Int64 → Int64 → Int64 → Hp → Option (Int64 × Hp)) (x3 : Int32) (x5 : Int64) (x7 : Int64) (x9 : Int64) (x11 : Int64) (h : Hp) : Option (Int64 × Hp) :=
  if (lg_cmp x11 (0 : Int64)) = 0 then
    if x3 = 0 then
      if x9 = 0 then none else
      some ((x5 / x9), h)
    else
      if x9 = 0 then none else
      some ((x7 / x9), h)
  else
    if x11 = 0 then none else
    K196 x3 x5 x7 x11 (x9 - x9 / x11 * x11) h
noncomputable def X5_odds_l196 : Nat → Int32 → Int64 → Int64 → Int64 → Int64 → Hp → Option (Int64 × Hp) := itr (X5_odds_b196) (fun _ _ _ _ _ _ => none)
noncomputable def X5_odds_b167 (K167 : Int32 → Int32 → Int64 → Int64 → Int32 → Hp → Option (Int64 × Hp)) (x3 : Int32) (x4 : Int32) (x5 : Int64) (x7 : Int64) (x9 : Int32) (h : Hp) : Option (Int64 × Hp) :=
  if x4 ≤ x9 then
    X5_odds_l196 fu x3 x5 x7 x5 x7 h
  else
    K167 x3 x4 x5 (x7 * (10 : Int64)) (x9 + (1 : Int32)) h
noncomputable def X5_odds_l167 : Nat → Int32 → Int32 → Int64 → Int64 → Int32 → Hp → Option (Int64 × Hp) := itr (X5_odds_b167) (fun _ _ _ _ _ _ => none)
noncomputable def X5_odds_b61 (K61 : Int32 → Int32 → Int32 → Int32 → Int64 → Int32 → Hp → Option (Int64 × Hp)) (x1 : Int32) (x2 : Int32) (x3 : Int32) (x4 : Int32) (x5 : Int64) (x7 : Int32) (h : Hp) : Option (Int64 × Hp) :=
  if ((1 : Int32) <<< (x4 &&& 31)) ≤ x7 then
    X5_odds_l167 fu x3 x4 x5 (1 : Int64) (0 : Int32) h
  else
    X5_odds_l76 K61 fu x1 x2 x3 x4 x5 x7 (1 : Int64) (0 : Int32) h
noncomputable def X5_odds_l61 : Nat → Int32 → Int32 → Int32 → Int32 → Int64 → Int32 → Hp → Option (Int64 × Hp) := itr (X5_odds_b61) (fun _ _ _ _ _ _ _ => none)
noncomputable def X5_odds_b53 (x1 : Int32) (x2 : Int32) (x3 : Int32) (s0 : Int32) (h : Hp) : Option (Int64 × Hp) :=
  X5_odds_l61 fu x1 x2 x3 s0 (0 : Int64) (0 : Int32) h
noncomputable def X5_odds (x1 : Int32) (x2 : Int32) (x3 : Int32) (h : Hp) : Option (Int64 × Hp) :=
  b2 (X5_isSize x1 h) fun v2 h1 =>
  if v2 = 0 then
    some ((-1 : Int64), h1)
  else
    b2 (X5_in x2 (0 : Int32) (10 : Int32) h1) fun v5 h4 =>
    if v5 = 0 then
      some ((-1 : Int64), h4)
    else
      b2 (X5_in x3 (0 : Int32) (1 : Int32) h4) fun v8 h7 =>
      if v8 = 0 then
        some ((-1 : Int64), h7)
      else
        if (9 : Int32) ≤ (h7.1 24 0) then
          X5_odds_b53 x1 x2 x3 (9 : Int32) h7
        else
          X5_odds_b53 x1 x2 x3 (h7.1 24 0) h7
noncomputable def X5_saw (x1 : Int32) (x2 : Int32) (h : Hp) : Option (Int32 × Hp) :=
  b2 (X5_isPiece x1 h) fun v2 h1 =>
  if v2 = 0 then
    some ((-1 : Int32), h1)
  else
    b2 (X5_isLine x2 h1) fun v5 h4 =>
    if v5 = 0 then
      some ((-1 : Int32), h4)
    else
      if (h4.1 20 26) = (6 : Int32) then
        some ((-3 : Int32), h4)
      else
        (st h4 32 6 (h4.1 20 26) x1).bind fun h8 =>
        (st h8 33 6 (h8.1 20 26) x2).bind fun h9 =>
        some (((h9.1 20 26) + (1 : Int32)), (sI h9 20 26 ((h9.1 20 26) + (1 : Int32))))
noncomputable def X5_forget (h : Hp) : Option (Int32 × Hp) :=
  some ((h.1 20 26), (sI h 20 26 (0 : Int32)))
noncomputable def X5_sizes_b67 (K27 : Int32 → Int32 → Int32 → Int32 → Hp → Option (Int32 × Hp)) (x1 : Int32) (x2 : Int32) (x4 : Int32) (s0 : Int32) (h : Hp) : Option (Int32 × Hp) :=
  K27 x1 x2 s0 (x4 + (1 : Int32)) h
noncomputable def X5_sizes_b86 (K9 : Int32 → Int32 → Hp → Option (Int32 × Hp)) (x2 : Int32) (s0 : Int32) (s1 : Int32) (h : Hp) : Option (Int32 × Hp) :=
  K9 (s0 ||| s1) (x2 + (1 : Int32)) h
noncomputable def X5_sizes_b74 (K9 : Int32 → Int32 → Hp → Option (Int32 × Hp)) (x1 : Int32) (x2 : Int32) (x3 : Int32) (h : Hp) : Option (Int32 × Hp) :=
  if x3 = 0 then
    X5_sizes_b86 K9 x2 x1 (0 : Int32) h
  else
    X5_sizes_b86 K9 x2 x1 ((1 : Int32) <<< (x2 &&& 31)) h
noncomputable def X5_sizes_b27 (K9 : Int32 → Int32 → Hp → Option (Int32 × Hp)) (K27 : Int32 → Int32 → Int32 → Int32 → Hp → Option (Int32 × Hp)) (x1 : Int32) (x2 : Int32) (x3 : Int32) (x4 : Int32) (h : Hp) : Option (Int32 × Hp) :=
  if (h.1 20 26) ≤ x4 then
    X5_sizes_b74 K9 x1 x2 x3 h
  else
    if x3 = 0 then
      X5_sizes_b74 K9 x1 x2 x3 h
    else
      (ld h 32 6 x4).bind fun v8 =>
      (ld h 30 10 v8).bind fun v9 =>
      (ld h 33 6 x4).bind fun v10 =>
      if v9 = v10 then
        X5_sizes_b67 K27 x1 x2 x4 (1 : Int32) h
      else
        X5_sizes_b67 K27 x1 x2 x4 (0 : Int32) h
noncomputable def X5_sizes_l27 (K9 : Int32 → Int32 → Hp → Option (Int32 × Hp)) : Nat → Int32 → Int32 → Int32 → Int32 → Hp → Option (Int32 × Hp) := itr (X5_sizes_b27 K9) (fun _ _ _ _ _ => none)
noncomputable def X5_sizes_b9 (K9 : Int32 → Int32 → Hp → Option (Int32 × Hp)) (x1 : Int32) (x2 : Int32) (h : Hp) : Option (Int32 × Hp) :=
  if (5 : Int32) < x2 then
    some (x1, h)
  else
    b2 (X5_all h) fun v3 h2 =>
    b2 (X5_goesOn x2 v3 h2) fun v5 h4 =>
    X5_sizes_l27 K9 fu x1 x2 v5 (0 : Int32) h4
noncomputable def X5_sizes_l9 : Nat → Int32 → Int32 → Hp → Option (Int32 × Hp) := itr (X5_sizes_b9) (fun _ _ _ => none)
noncomputable def X5_sizes (h : Hp) : Option (Int32 × Hp) :=
  X5_sizes_l9 fu (0 : Int32) (h.1 26 0) h
noncomputable def X5_two_b54 (K27 : Int32 → Int32 → Int32 → Hp → Option (Int32 × Hp)) (x2 : Int32) (x4 : Int32) (s0 : Int32) (s1 : Int32) (h : Hp) : Option (Int32 × Hp) :=
  K27 x2 (s0 + s1) (x4 + (1 : Int32)) h
noncomputable def X5_two_b27 (K27 : Int32 → Int32 → Int32 → Hp → Option (Int32 × Hp)) (x2 : Int32) (x3 : Int32) (x4 : Int32) (h : Hp) : Option (Int32 × Hp) :=
  if (h.1 24 0) ≤ x4 then
    some (x3, h)
  else
    b2 (X5_isClear x4 x2 h) fun v6 h5 =>
    if v6 = 0 then
      X5_two_b54 K27 x2 x4 x3 (1 : Int32) h5
    else
      X5_two_b54 K27 x2 x4 x3 (0 : Int32) h5
noncomputable def X5_two_l27 : Nat → Int32 → Int32 → Int32 → Hp → Option (Int32 × Hp) := itr (X5_two_b27) (fun _ _ _ _ => none)
noncomputable def X5_two (x1 : Int32) (h : Hp) : Option (Int32 × Hp) :=
  b2 (X5_in x1 (0 : Int32) (h.1 24 0) h) fun v2 h1 =>
  if v2 = 0 then
    some ((-1 : Int32), h1)
  else
    X5_two_l27 fu (((1 : Int32) <<< (x1 &&& 31)) - (1 : Int32)) (0 : Int32) x1 h1
noncomputable def X5_mark (x1 : Int32) (x2 : Int32) (h : Hp) : Option (Int32 × Hp) :=
  b2 (X5_in x1 (0 : Int32) (5 : Int32) h) fun v2 h1 =>
  if v2 = 0 then
    some ((-1000000 : Int32), h1)
  else
    b2 (X5_isPiece x2 h1) fun v5 h4 =>
    if v5 = 0 then
      some ((-1000000 : Int32), h4)
    else
      b2 (X5_of x2 (0 : Int32) h4) fun v8 h7 =>
      if x1 = (0 : Int32) then
        some (v8, (sL h7 20 0 ((h7.2 20 0) + (1 : Int64))))
      else
      if x1 = (1 : Int32) then
        b2 (X5_of x2 (1 : Int32) (sL h7 20 0 ((h7.2 20 0) + (11 : Int64)))) fun v10 h9 =>
        some ((v8 + v10), h9)
      else
      if x1 = (2 : Int32) then
        b2 (X5_of x2 (4 : Int32) (sL h7 20 0 ((h7.2 20 0) + (101 : Int64)))) fun v12 h11 =>
        some ((v8 - v12), h11)
      else
      if x1 = (3 : Int32) then
        b2 (X5_of x2 (1 : Int32) (sL h7 20 0 ((h7.2 20 0) + (1011 : Int64)))) fun v14 h13 =>
        some (((2 : Int32) * (v8 + v14)), h13)
      else
      if x1 = (4 : Int32) then
        b2 (X5_of x2 (4 : Int32) (sL h7 20 0 ((h7.2 20 0) + (10101 : Int64)))) fun v16 h15 =>
        some (((v8 - v16) + (h15.1 27 1)), h15)
      else
        some ((v8 + (h7.1 27 3)), (sL h7 20 0 ((h7.2 20 0) + (100001 : Int64))))
noncomputable def X5_copy_b2 (K2 : Int32 → Int32 → Int32 → Hp → Option (Hp)) (x1 : Int32) (x2 : Int32) (x3 : Int32) (h : Hp) : Option (Hp) :=
  if (66 : Int32) ≤ x3 then
    some h
  else
    (ld h 27 198 (x1 + x3)).bind fun v2 =>
    (st h 27 198 (x2 + x3) v2).bind fun h3 =>
    K2 x1 x2 (x3 + (1 : Int32)) h3
noncomputable def X5_copy_l2 : Nat → Int32 → Int32 → Int32 → Hp → Option (Hp) := itr (X5_copy_b2) (fun _ _ _ _ => none)
noncomputable def X5_copy (x1 : Int32) (x2 : Int32) (h : Hp) : Option (Hp) :=
  X5_copy_l2 fu x1 x2 (0 : Int32) h
noncomputable def X5_keep (x1 : Int32) (h : Hp) : Option (Int32 × Hp) :=
  b2 (X5_in x1 (0 : Int32) (1 : Int32) h) fun v2 h1 =>
  if v2 = 0 then
    some ((-1 : Int32), h1)
  else
    (X5_copy (0 : Int32) ((66 : Int32) * ((1 : Int32) + x1)) h1).bind fun h4 =>
    (st h4 28 2 x1 (1 : Int32)).bind fun h5 =>
    some ((h5.1 27 0), h5)
noncomputable def X5_back (x1 : Int32) (h : Hp) : Option (Int32 × Hp) :=
  b2 (X5_in x1 (0 : Int32) (1 : Int32) h) fun v2 h1 =>
  if v2 = 0 then
    some ((-1 : Int32), h1)
  else
    (ld h1 28 2 x1).bind fun v4 =>
    if v4 = 0 then
      some ((-2 : Int32), h1)
    else
      (X5_copy ((66 : Int32) * ((1 : Int32) + x1)) (0 : Int32) h1).bind fun h6 =>
      some ((h6.1 27 0), h6)
noncomputable def X5_count (x1 : Int32) (h : Hp) : Option (Int32 × Hp) :=
  if x1 = (0 : Int32) then
    some ((h.1 22 0), h)
  else
  if x1 = (1 : Int32) then
    some ((h.1 24 0), h)
  else
  if x1 = (2 : Int32) then
    some ((h.1 26 0), h)
  else
  if x1 = (3 : Int32) then
    some ((h.1 20 26), h)
  else
  if x1 = (4 : Int32) then
    some ((h.1 27 5), h)
  else
  if x1 = (5 : Int32) then
    some ((h.1 20 2), h)
  else
    some ((-1 : Int32), h)
noncomputable def X5_trace (h : Hp) : Option (Int64 × Hp) :=
  some ((h.2 20 0), h)
