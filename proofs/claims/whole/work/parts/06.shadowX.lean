noncomputable def X4_within (x0 : Int32) (x1 : Int32) (x2 : Int32) (h : Hp) : Option (Int32 × Hp) :=
  if x0 < x1 then
    some ((0 : Int32), h)
  else
    if x2 < x0 then
      some ((0 : Int32), h)
    else
      some ((1 : Int32), h)
noncomputable def X2_add (x1 : Int32) (h : Hp) : Option (Int32 × Hp) :=
  if (h.1 1 2) < (200 : Int32) then
    (st h 2 200 (h.1 1 2) x1).bind fun h2 =>
    some ((1 : Int32), (sI h2 1 2 ((h2.1 1 2) + (1 : Int32))))
  else
    some ((0 : Int32), h)
noncomputable def X4_type (x1 : Int32) (h : Hp) : Option (Int32 × Hp) :=
  b2 (X4_within x1 (0 : Int32) (255 : Int32) h) fun v2 h1 =>
  if v2 = 0 then
    some ((-1 : Int32), h1)
  else
    b2 (X2_add x1 h1) fun v5 h4 =>
    if v5 = 0 then
      some ((-3 : Int32), h4)
    else
      some ((h4.1 1 2), h4)
noncomputable def X4_clear (h : Hp) : Option (Int32 × Hp) :=
  some ((h.1 1 2), (sI h 1 2 (0 : Int32)))
noncomputable def X3_erase_7 (h : Hp) : Option (Hp) :=
  some (sI (sI (sI h 7 2 (0 : Int32)) 7 3 (0 : Int32)) 7 4 (1 : Int32))
noncomputable def X2_readDigits_b104 (s0 : Int32) (h : Hp) : Option (Hp) :=
  if s0 = 0 then
    if (h.1 1 8) ≤ (99 : Int32) then
      some (sI h 1 7 (2 : Int32))
    else
      some (sI h 1 7 (4 : Int32))
  else
    some (sI h 1 7 (4 : Int32))
noncomputable def X2_readDigits_b103 (h : Hp) : Option (Hp) :=
  X2_readDigits_b104 (0 : Int32) h
noncomputable def X2_readDigits_b72 (h : Hp) : Option (Hp) :=
  (ld h 2 200 (h.1 1 5)).bind fun v7 =>
  if v7 = (48 : Int32) then
    if ((h.1 1 6) - (h.1 1 5)) ≤ (1 : Int32) then
      X2_readDigits_b103 h
    else
      X2_readDigits_b104 (1 : Int32) h
  else
    X2_readDigits_b103 h
noncomputable def X2_readDigits_b0 (K0 : Hp → Option (Hp)) (h : Hp) : Option (Hp) :=
  if (h.1 1 2) ≤ (h.1 1 6) then
    X2_readDigits_b72 h
  else
    (ld h 2 200 (h.1 1 6)).bind fun v2 =>
    b2 (X4_within v2 (48 : Int32) (57 : Int32) h) fun v4 h3 =>
    if v4 = 0 then
      X2_readDigits_b72 h3
    else
      (ld h3 2 200 (h3.1 1 6)).bind fun v6 =>
      K0 (sI (sI h3 1 8 (if (100 : Int32) < ((((h3.1 1 8) * (10 : Int32)) + v6) - (48 : Int32)) then (100 : Int32) else ((((h3.1 1 8) * (10 : Int32)) + v6) - (48 : Int32)))) 1 6 ((h3.1 1 6) + (1 : Int32)))
noncomputable def X2_readDigits_l0 : Nat → Hp → Option (Hp) := itr (X2_readDigits_b0) (fun _ => none)
noncomputable def X2_readDigits (h : Hp) : Option (Hp) :=
  X2_readDigits_l0 fu h
noncomputable def X2_readLetters_b56 (h : Hp) : Option (Hp) :=
  if ((h.1 1 6) - (h.1 1 5)) = (1 : Int32) then
    some (sI h 1 7 (1 : Int32))
  else
    some (sI h 1 7 (4 : Int32))
noncomputable def X2_readLetters_b13 (K13 : Hp → Option (Hp)) (h : Hp) : Option (Hp) :=
  if (h.1 1 2) ≤ (h.1 1 6) then
    X2_readLetters_b56 h
  else
    (ld h 2 200 (h.1 1 6)).bind fun v3 =>
    b2 (X4_within v3 (97 : Int32) (122 : Int32) h) fun v5 h4 =>
    if v5 = 0 then
      X2_readLetters_b56 h4
    else
      K13 (sI h4 1 6 ((h4.1 1 6) + (1 : Int32)))
noncomputable def X2_readLetters_l13 : Nat → Hp → Option (Hp) := itr (X2_readLetters_b13) (fun _ => none)
noncomputable def X2_readLetters (h : Hp) : Option (Hp) :=
  (ld h 2 200 (h.1 1 5)).bind fun v1 =>
  X2_readLetters_l13 fu (sI h 1 8 v1)
noncomputable def X2_step_b38 (h : Hp) : Option (Hp) :=
  if (h.1 1 6) < (h.1 1 2) then
    (ld (sI (sI (sI h 1 5 (h.1 1 6)) 1 7 (4 : Int32)) 1 8 (0 : Int32)) 2 200 (h.1 1 6)).bind fun v5 =>
    b2 (X4_within v5 (97 : Int32) (122 : Int32) (sI (sI (sI h 1 5 (h.1 1 6)) 1 7 (4 : Int32)) 1 8 (0 : Int32))) fun v7 h6 =>
    if v7 = 0 then
      (ld h6 2 200 (h6.1 1 5)).bind fun v9 =>
      b2 (X4_within v9 (48 : Int32) (57 : Int32) h6) fun v11 h10 =>
      if v11 = 0 then
        (ld h10 2 200 (h10.1 1 5)).bind fun v13 =>
        if v13 = (59 : Int32) then
          some (sI (sI h10 1 7 (3 : Int32)) 1 6 ((h10.1 1 6) + (1 : Int32)))
        else
          some h10
      else
        (X2_readDigits h10).bind fun h15 =>
        some h15
    else
      (X2_readLetters h6).bind fun h16 =>
      some h16
  else
    some (sI (sI (sI (sI h 1 5 (h.1 1 6)) 1 7 (4 : Int32)) 1 8 (0 : Int32)) 1 7 (0 : Int32))
noncomputable def X2_step_b0 (K0 : Hp → Option (Hp)) (h : Hp) : Option (Hp) :=
  if (h.1 1 2) ≤ (h.1 1 6) then
    X2_step_b38 h
  else
    (ld h 2 200 (h.1 1 6)).bind fun v2 =>
    if v2 = (32 : Int32) then
      K0 (sI h 1 6 ((h.1 1 6) + (1 : Int32)))
    else
      X2_step_b38 h
noncomputable def X2_step_l0 : Nat → Hp → Option (Hp) := itr (X2_step_b0) (fun _ => none)
noncomputable def X2_step (h : Hp) : Option (Hp) :=
  X2_step_l0 fu h
noncomputable def X2_mayBegin (h : Hp) : Option (Int32 × Hp) :=
  if (h.1 1 7) = (1 : Int32) then
    if (h.1 1 8) = (108 : Int32) then
      if (6 : Int32) ≤ (h.1 7 2) then
        some ((0 : Int32), h)
      else
        some ((1 : Int32), h)
    else
    if (h.1 1 8) = (119 : Int32) then
      if (10 : Int32) ≤ (h.1 7 3) then
        some ((0 : Int32), h)
      else
        some ((1 : Int32), h)
    else
    if (h.1 1 8) = (122 : Int32) then
      if (h.1 1 4) = 0 then
        some ((1 : Int32), h)
      else
        some ((0 : Int32), h)
    else
      some ((0 : Int32), h)
  else
    some ((0 : Int32), h)
noncomputable def X3_hasPiece_7 (x1 : Int32) (h : Hp) : Option (Int32 × Hp) :=
  b2 (X4_within x1 (0 : Int32) ((h.1 7 3) - (1 : Int32)) h) fun v2 h1 =>
  zb v2 h1
noncomputable def X2_mayBe (x1 : Int32) (x2 : Int32) (h : Hp) : Option (Int32 × Hp) :=
  if x1 = (108 : Int32) then
    b2 (X4_within (h.1 1 8) (1 : Int32) (60 : Int32) h) fun v19 h18 =>
    zb v19 h18
  else
    if x1 = (122 : Int32) then
      b2 (X4_within (h.1 1 8) (1 : Int32) (5 : Int32) h) fun v17 h16 =>
      zb v17 h16
    else
      if x2 = (0 : Int32) then
        b2 (X4_within (h.1 1 8) (1 : Int32) (12 : Int32) h) fun v4 h3 =>
        zb v4 h3
      else
      if x2 = (1 : Int32) then
        b2 (X4_within (h.1 1 8) (0 : Int32) (9 : Int32) h) fun v6 h5 =>
        zb v6 h5
      else
      if x2 = (2 : Int32) then
        b2 (X3_hasPiece_7 (h.1 1 8) h) fun v8 h7 =>
        if v8 = 0 then
          if (h7.1 1 8) = (99 : Int32) then
            some ((1 : Int32), h7)
          else
            some ((0 : Int32), h7)
        else
          some ((1 : Int32), h7)
      else
      if x2 = (3 : Int32) then
        b2 (X4_within (h.1 1 8) (0 : Int32) (12 : Int32) h) fun v12 h11 =>
        zb v12 h11
      else
        b2 (X4_within (h.1 1 8) (0 : Int32) ((h.1 3 0) - (1 : Int32)) h) fun v14 h13 =>
        zb v14 h13
noncomputable def X2_readNumbers_b15 (K15 : Int32 → Int32 → Int32 → Hp → Option (Int32 × Hp)) (x1 : Int32) (x3 : Int32) (x4 : Int32) (h : Hp) : Option (Int32 × Hp) :=
  if x3 ≤ x4 then
    some ((1 : Int32), h)
  else
    (X2_step h).bind fun h3 =>
    if (h3.1 1 7) = (2 : Int32) then
      b2 (X2_mayBe x1 x4 h3) fun v6 h5 =>
      if v6 = 0 then
        some ((0 : Int32), h5)
      else
        (st h5 3 5 x4 (h5.1 1 8)).bind fun h8 =>
        K15 x1 x3 (x4 + (1 : Int32)) h8
    else
      some ((0 : Int32), h3)
noncomputable def X2_readNumbers_l15 : Nat → Int32 → Int32 → Int32 → Hp → Option (Int32 × Hp) := itr (X2_readNumbers_b15) (fun _ _ _ _ => none)
noncomputable def X2_readNumbers_b11 (x1 : Int32) (s0 : Int32) (h : Hp) : Option (Int32 × Hp) :=
  X2_readNumbers_l15 fu x1 s0 (0 : Int32) h
noncomputable def X2_readNumbers (x1 : Int32) (h : Hp) : Option (Int32 × Hp) :=
  if x1 = (119 : Int32) then
    X2_readNumbers_b11 x1 (5 : Int32) h
  else
    X2_readNumbers_b11 x1 (1 : Int32) h
noncomputable def X3_addPiece_7 (h : Hp) : Option (Hp) :=
  if (10 : Int32) ≤ (h.1 7 3) then
    some h
  else
    if (5 : Int32) < (5 : Int32) then
      some h
    else
      (cpc h 3 5 (0 : Int32) 9 50 ((h.1 7 3) * (5 : Int32)) (5 : Int32)).bind fun h3 =>
      some (sI h3 7 3 ((h3.1 7 3) + (1 : Int32)))
noncomputable def X3_addLine_7 (x1 : Int32) (h : Hp) : Option (Hp) :=
  if (6 : Int32) ≤ (h.1 7 2) then
    some h
  else
    (st h 8 6 (h.1 7 2) x1).bind fun h2 =>
    some (sI h2 7 2 ((h2.1 7 2) + (1 : Int32)))
noncomputable def X2_tell (x1 : Int32) (h : Hp) : Option (Hp) :=
  if x1 = (108 : Int32) then
    (X3_addLine_7 (h.1 3 0) h).bind fun h4 =>
    some h4
  else
    if x1 = (119 : Int32) then
      (X3_addPiece_7 h).bind fun h3 =>
      some h3
    else
      some (sI (sI h 7 4 (h.1 3 0)) 1 4 (1 : Int32))
noncomputable def X2_tellTo_b19 (K19 : Hp → Option (Int32 × Hp)) (h : Hp) : Option (Int32 × Hp) :=
  if (17 : Int32) < (h.1 1 3) then
    some ((h.1 1 5), h)
  else
    (X2_step h).bind fun h3 =>
    if (h3.1 1 7) = 0 then
      some ((-1 : Int32), h3)
    else
      b2 (X2_mayBegin h3) fun v6 h5 =>
      if v6 = 0 then
        some ((h5.1 1 5), h5)
      else
        b2 (X2_readNumbers (h3.1 1 8) h5) fun v9 h8 =>
        if v9 = 0 then
          some ((h8.1 1 5), h8)
        else
          (X2_step h8).bind fun h11 =>
          if (h11.1 1 7) = (3 : Int32) then
            (X2_tell (h3.1 1 8) h11).bind fun h13 =>
            K19 (sI h13 1 3 ((h13.1 1 3) + (1 : Int32)))
          else
            some ((h11.1 1 5), h11)
noncomputable def X2_tellTo_l19 : Nat → Hp → Option (Int32 × Hp) := itr (X2_tellTo_b19) (fun _ => none)
noncomputable def X2_tellTo (h : Hp) : Option (Int32 × Hp) :=
  (X3_erase_7 h).bind fun h1 =>
  X2_tellTo_l19 fu (sI (sI (sI h1 1 6 (0 : Int32)) 1 4 (0 : Int32)) 1 3 (0 : Int32))
noncomputable def X3_become (h : Hp) : Option (Hp) :=
  (cpc h 8 6 (0 : Int32) 5 6 (0 : Int32) (6 : Int32)).bind fun h1 =>
  (cpc h1 9 50 (0 : Int32) 6 50 (0 : Int32) (50 : Int32)).bind fun h2 =>
  some (sI (sI (sI h2 4 2 (h2.1 7 2)) 4 3 (h2.1 7 3)) 4 4 (h2.1 7 4))
noncomputable def X3_hasLine (x1 : Int32) (h : Hp) : Option (Int32 × Hp) :=
  b2 (X4_within x1 (0 : Int32) ((h.1 4 2) - (1 : Int32)) h) fun v2 h1 =>
  zb v2 h1
noncomputable def X3_wideOf (x1 : Int32) (h : Hp) : Option (Int32 × Hp) :=
  b2 (X3_hasLine x1 h) fun v2 h1 =>
  if v2 = 0 then
    some ((0 : Int32), h1)
  else
    (ld h1 5 6 x1).bind fun v4 =>
    some (v4, h1)
noncomputable def X1_begin (h : Hp) : Option (Hp) :=
  b2 (X3_wideOf (0 : Int32) (sI (sI h 12 1 (0 : Int32)) 12 2 (0 : Int32))) fun v2 h1 =>
  some (sI (sI (sI (sI h1 12 3 v2) 12 4 (5 : Int32)) 12 5 (0 : Int32)) 12 7 (0 : Int32))
noncomputable def X4_card (h : Hp) : Option (Int32 × Hp) :=
  b2 (X2_tellTo h) fun v2 h1 =>
  if v2 = (-1 : Int32) then
    (X3_become h1).bind fun h4 =>
    (X1_begin (sI h4 1 2 (0 : Int32))).bind fun h5 =>
    some ((h5.1 1 3), (sI (sI h5 0 7 (0 : Int32)) 0 10 (0 : Int32)))
  else
    some (((-10 : Int32) - v2), h1)
noncomputable def X4_line (x1 : Int32) (h : Hp) : Option (Int32 × Hp) :=
  b2 (X3_hasLine x1 h) fun v2 h1 =>
  if v2 = 0 then
    some ((-1 : Int32), h1)
  else
    b2 (X3_wideOf x1 h1) fun v5 h4 =>
    some (v5, h4)
noncomputable def X3_hasPiece (x1 : Int32) (h : Hp) : Option (Int32 × Hp) :=
  b2 (X4_within x1 (0 : Int32) ((h.1 4 3) - (1 : Int32)) h) fun v2 h1 =>
  zb v2 h1
noncomputable def X4_bit (x0 : Int32) (x1 : Int32) (h : Hp) : Option (Int32 × Hp) :=
  some (((x0 >>> (x1 &&& 31)) &&& (1 : Int32)), h)
noncomputable def X3_of (x1 : Int32) (x2 : Int32) (h : Hp) : Option (Int32 × Hp) :=
  b2 (X3_hasPiece x1 h) fun v2 h1 =>
  if v2 = 0 then
    some ((0 : Int32), h1)
  else
    b2 (X4_within x2 (0 : Int32) (4 : Int32) h1) fun v5 h4 =>
    if v5 = 0 then
      some ((0 : Int32), h4)
    else
      (ld h4 6 50 ((x1 * (5 : Int32)) + x2)).bind fun v7 =>
      some (v7, h4)
noncomputable def X4_word (x1 : Int32) (x2 : Int32) (h : Hp) : Option (Int32 × Hp) :=
  b2 (X3_hasPiece x1 h) fun v2 h1 =>
  if v2 = 0 then
    some ((-1 : Int32), h1)
  else
    b2 (X4_within x2 (0 : Int32) (5 : Int32) h1) fun v5 h4 =>
    if v5 = 0 then
      some ((-1 : Int32), h4)
    else
      if (5 : Int32) ≤ x2 then
        b2 (X4_bit (h4.1 12 5) x1 h4) fun v9 h8 =>
        some (v9, h8)
      else
        b2 (X3_of x1 x2 h4) fun v11 h10 =>
        some (v11, h10)
noncomputable def X1_hasNext (h : Hp) : Option (Int32 × Hp) :=
  b2 (X3_hasPiece (h.1 12 1) h) fun v2 h1 =>
  zb v2 h1
noncomputable def X1_canWrite (h : Hp) : Option (Int32 × Hp) :=
  b2 (X1_hasNext h) fun v2 h1 =>
  if v2 = 0 then
    some ((0 : Int32), h1)
  else
    if (h1.1 4 2) ≤ 0 then
      some ((0 : Int32), h1)
    else
      some ((1 : Int32), h1)
noncomputable def X1_blank (h : Hp) : Option (Int32 × Hp) :=
  b2 (X3_wideOf (h.1 12 2) h) fun v2 h1 =>
  if (h.1 12 3) = v2 then
    some ((0 : Int32), h1)
  else
    some ((1 : Int32), h1)
noncomputable def X1_remember_b34 (h : Hp) : Option (Hp) :=
  (st h 13 60 ((h.1 12 7) * (5 : Int32)) (h.1 12 1)).bind fun h3 =>
  (st h3 13 60 (((h.1 12 7) * (5 : Int32)) + (1 : Int32)) (h3.1 12 2)).bind fun h4 =>
  (st h4 13 60 (((h.1 12 7) * (5 : Int32)) + (2 : Int32)) (h4.1 12 3)).bind fun h5 =>
  (st h5 13 60 (((h.1 12 7) * (5 : Int32)) + (3 : Int32)) (h5.1 12 4)).bind fun h6 =>
  (st h6 13 60 (((h.1 12 7) * (5 : Int32)) + (4 : Int32)) (h6.1 12 5)).bind fun h7 =>
  some (sI h7 12 7 ((h7.1 12 7) + (1 : Int32)))
noncomputable def X1_remember (h : Hp) : Option (Hp) :=
  if (h.1 12 7) < (12 : Int32) then
    X1_remember_b34 h
  else
    (cpc (sI h 12 7 (11 : Int32)) 13 60 (5 : Int32) 13 60 (0 : Int32) ((11 : Int32) * (5 : Int32))).bind fun h2 =>
    X1_remember_b34 h2
noncomputable def X1_put (x1 : Int32) (h : Hp) : Option (Int32 × Hp) :=
  b2 (X1_blank h) fun v2 h1 =>
  if ((v2 + x1) * (h1.1 12 4)) ≤ (h1.1 12 3) then
    (X1_remember h1).bind fun h4 =>
    some (((h4.1 12 3) - ((v2 + x1) * (h1.1 12 4))), (sI (sI h4 12 3 ((h4.1 12 3) - ((v2 + x1) * (h1.1 12 4)))) 12 1 ((h4.1 12 1) + (1 : Int32))))
  else
    some ((-2 : Int32), h1)
noncomputable def X4_writes (h : Hp) : Option (Int32 × Hp) :=
  b2 (X1_canWrite h) fun v2 h1 =>
  if v2 = 0 then
    some ((-2 : Int32), h1)
  else
    b2 (X3_of (h1.1 12 1) (0 : Int32) h1) fun v5 h4 =>
    b2 (X1_put v5 h4) fun v7 h6 =>
    some (v7, h6)
noncomputable def X4_signs (h : Hp) : Option (Int32 × Hp) :=
  b2 (X1_canWrite h) fun v2 h1 =>
  if v2 = 0 then
    some ((-2 : Int32), h1)
  else
    b2 (X3_of (h1.1 12 1) (3 : Int32) h1) fun v5 h4 =>
    if v5 = 0 then
      some ((-2 : Int32), h4)
    else
      b2 (X3_of (h4.1 12 1) (3 : Int32) h4) fun v8 h7 =>
      b2 (X1_put v8 h7) fun v10 h9 =>
      some (v10, h9)
noncomputable def X1_putBroken (x1 : Int32) (x2 : Int32) (h : Hp) : Option (Int32 × Hp) :=
  b2 (X1_blank h) fun v2 h1 =>
  b2 (X3_wideOf ((h1.1 12 2) + (1 : Int32)) h1) fun v4 h3 =>
  if (h3.1 12 3) < (((v2 + x1) + (1 : Int32)) * (h1.1 12 4)) then
    some ((-2 : Int32), h3)
  else
    if (x2 * (h3.1 12 4)) ≤ v4 then
      (X1_remember h3).bind fun h7 =>
      some ((v4 - (x2 * (h7.1 12 4))), (sI (sI (sI h7 12 2 ((h7.1 12 2) + (1 : Int32))) 12 3 (v4 - (x2 * (h7.1 12 4)))) 12 1 ((h7.1 12 1) + (1 : Int32))))
    else
      some ((-2 : Int32), h3)
noncomputable def X4_breaks (h : Hp) : Option (Int32 × Hp) :=
  b2 (X1_canWrite h) fun v2 h1 =>
  if v2 = 0 then
    some ((-2 : Int32), h1)
  else
    b2 (X3_of (h1.1 12 1) (4 : Int32) h1) fun v5 h4 =>
    if v5 = 0 then
      some ((-2 : Int32), h4)
    else
      b2 (X3_of (h4.1 12 1) (4 : Int32) h4) fun v8 h7 =>
      b2 (X3_of (h7.1 12 1) (0 : Int32) h7) fun v10 h9 =>
      b2 (X1_putBroken v8 (v10 - v8) h9) fun v12 h11 =>
      some (v12, h11)
noncomputable def J6_bitCount_0f7a4 (x0 : Int32) (h : Hp) : Option (Int32 × Hp) :=
  some (((((((((x0 - ((((x0).toUInt32 >>> (((1 : Int32)).toUInt32 &&& Int32.toUInt32 31)).toInt32) &&& (1431655765 : Int32))) &&& (858993459 : Int32)) + (((((x0 - ((((x0).toUInt32 >>> (((1 : Int32)).toUInt32 &&& Int32.toUInt32 31)).toInt32) &&& (1431655765 : Int32)))).toUInt32 >>> (((2 : Int32)).toUInt32 &&& Int32.toUInt32 31)).toInt32) &&& (858993459 : Int32))) + ((((((x0 - ((((x0).toUInt32 >>> (((1 : Int32)).toUInt32 &&& Int32.toUInt32 31)).toInt32) &&& (1431655765 : Int32))) &&& (858993459 : Int32)) + (((((x0 - ((((x0).toUInt32 >>> (((1 : Int32)).toUInt32 &&& Int32.toUInt32 31)).toInt32) &&& (1431655765 : Int32)))).toUInt32 >>> (((2 : Int32)).toUInt32 &&& Int32.toUInt32 31)).toInt32) &&& (858993459 : Int32)))).toUInt32 >>> (((4 : Int32)).toUInt32 &&& Int32.toUInt32 31)).toInt32)) &&& (252645135 : Int32)) + ((((((((x0 - ((((x0).toUInt32 >>> (((1 : Int32)).toUInt32 &&& Int32.toUInt32 31)).toInt32) &&& (1431655765 : Int32))) &&& (858993459 : Int32)) + (((((x0 - ((((x0).toUInt32 >>> (((1 : Int32)).toUInt32 &&& Int32.toUInt32 31)).toInt32) &&& (1431655765 : Int32)))).toUInt32 >>> (((2 : Int32)).toUInt32 &&& Int32.toUInt32 31)).toInt32) &&& (858993459 : Int32))) + ((((((x0 - ((((x0).toUInt32 >>> (((1 : Int32)).toUInt32 &&& Int32.toUInt32 31)).toInt32) &&& (1431655765 : Int32))) &&& (858993459 : Int32)) + (((((x0 - ((((x0).toUInt32 >>> (((1 : Int32)).toUInt32 &&& Int32.toUInt32 31)).toInt32) &&& (1431655765 : Int32)))).toUInt32 >>> (((2 : Int32)).toUInt32 &&& Int32.toUInt32 31)).toInt32) &&& (858993459 : Int32)))).toUInt32 >>> (((4 : Int32)).toUInt32 &&& Int32.toUInt32 31)).toInt32)) &&& (252645135 : Int32))).toUInt32 >>> (((8 : Int32)).toUInt32 &&& Int32.toUInt32 31)).toInt32)) + (((((((((x0 - ((((x0).toUInt32 >>> (((1 : Int32)).toUInt32 &&& Int32.toUInt32 31)).toInt32) &&& (1431655765 : Int32))) &&& (858993459 : Int32)) + (((((x0 - ((((x0).toUInt32 >>> (((1 : Int32)).toUInt32 &&& Int32.toUInt32 31)).toInt32) &&& (1431655765 : Int32)))).toUInt32 >>> (((2 : Int32)).toUInt32 &&& Int32.toUInt32 31)).toInt32) &&& (858993459 : Int32))) + ((((((x0 - ((((x0).toUInt32 >>> (((1 : Int32)).toUInt32 &&& Int32.toUInt32 31)).toInt32) &&& (1431655765 : Int32))) &&& (858993459 : Int32)) + (((((x0 - ((((x0).toUInt32 >>> (((1 : Int32)).toUInt32 &&& Int32.toUInt32 31)).toInt32) &&& (1431655765 : Int32)))).toUInt32 >>> (((2 : Int32)).toUInt32 &&& Int32.toUInt32 31)).toInt32) &&& (858993459 : Int32)))).toUInt32 >>> (((4 : Int32)).toUInt32 &&& Int32.toUInt32 31)).toInt32)) &&& (252645135 : Int32)) + ((((((((x0 - ((((x0).toUInt32 >>> (((1 : Int32)).toUInt32 &&& Int32.toUInt32 31)).toInt32) &&& (1431655765 : Int32))) &&& (858993459 : Int32)) + (((((x0 - ((((x0).toUInt32 >>> (((1 : Int32)).toUInt32 &&& Int32.toUInt32 31)).toInt32) &&& (1431655765 : Int32)))).toUInt32 >>> (((2 : Int32)).toUInt32 &&& Int32.toUInt32 31)).toInt32) &&& (858993459 : Int32))) + ((((((x0 - ((((x0).toUInt32 >>> (((1 : Int32)).toUInt32 &&& Int32.toUInt32 31)).toInt32) &&& (1431655765 : Int32))) &&& (858993459 : Int32)) + (((((x0 - ((((x0).toUInt32 >>> (((1 : Int32)).toUInt32 &&& Int32.toUInt32 31)).toInt32) &&& (1431655765 : Int32)))).toUInt32 >>> (((2 : Int32)).toUInt32 &&& Int32.toUInt32 31)).toInt32) &&& (858993459 : Int32)))).toUInt32 >>> (((4 : Int32)).toUInt32 &&& Int32.toUInt32 31)).toInt32)) &&& (252645135 : Int32))).toUInt32 >>> (((8 : Int32)).toUInt32 &&& Int32.toUInt32 31)).toInt32))).toUInt32 >>> (((16 : Int32)).toUInt32 &&& Int32.toUInt32 31)).toInt32)) &&& (63 : Int32)), h)
noncomputable def X1_leaveOut (h : Hp) : Option (Int32 × Hp) :=
  (X1_remember h).bind fun h1 =>
  b2 (J6_bitCount_0f7a4 ((h1.1 12 5) ||| ((1 : Int32) <<< ((h1.1 12 1) &&& 31))) (sI (sI h1 12 5 ((h1.1 12 5) ||| ((1 : Int32) <<< ((h1.1 12 1) &&& 31)))) 12 1 ((h1.1 12 1) + (1 : Int32)))) fun v3 h2 =>
  some (v3, h2)
noncomputable def X4_omits (h : Hp) : Option (Int32 × Hp) :=
  b2 (X1_hasNext h) fun v2 h1 =>
  if v2 = 0 then
    some ((-2 : Int32), h1)
  else
    b2 (X1_leaveOut h1) fun v5 h4 =>
    some (v5, h4)
noncomputable def X1_shrink (x1 : Int32) (h : Hp) : Option (Int32 × Hp) :=
  (X1_remember h).bind fun h1 =>
  some ((h1.1 12 4), (sI h1 12 4 x1))
noncomputable def X4_smaller (x1 : Int32) (h : Hp) : Option (Int32 × Hp) :=
  b2 (X4_within x1 (1 : Int32) (5 : Int32) h) fun v2 h1 =>
  if v2 = 0 then
    some ((-1 : Int32), h1)
  else
    if (h1.1 12 4) ≤ x1 then
      some ((-2 : Int32), h1)
    else
      if (h1.1 4 4) ≤ x1 then
        b2 (X1_shrink x1 h1) fun v7 h6 =>
        some (v7, h6)
      else
        some ((-2 : Int32), h1)
noncomputable def X1_turn (h : Hp) : Option (Int32 × Hp) :=
  (X1_remember h).bind fun h1 =>
  b2 (X3_wideOf ((h1.1 12 2) + (1 : Int32)) (sI h1 12 2 ((h1.1 12 2) + (1 : Int32)))) fun v3 h2 =>
  some ((h2.1 12 2), (sI h2 12 3 v3))
noncomputable def X4_turnsOver (h : Hp) : Option (Int32 × Hp) :=
  b2 (X3_hasLine ((h.1 12 2) + (1 : Int32)) h) fun v2 h1 =>
  if v2 = 0 then
    some ((-2 : Int32), h1)
  else
    b2 (X1_turn h1) fun v5 h4 =>
    some (v5, h4)
noncomputable def X1_takeBack (h : Hp) : Option (Int32 × Hp) :=
  if (h.1 12 7) ≤ 0 then
    some ((h.1 12 7), h)
  else
    (ld (sI h 12 7 ((h.1 12 7) - (1 : Int32))) 13 60 (((h.1 12 7) - (1 : Int32)) * (5 : Int32))).bind fun v2 =>
    (ld (sI (sI h 12 7 ((h.1 12 7) - (1 : Int32))) 12 1 v2) 13 60 ((((h.1 12 7) - (1 : Int32)) * (5 : Int32)) + (1 : Int32))).bind fun v3 =>
    (ld (sI (sI (sI h 12 7 ((h.1 12 7) - (1 : Int32))) 12 1 v2) 12 2 v3) 13 60 ((((h.1 12 7) - (1 : Int32)) * (5 : Int32)) + (2 : Int32))).bind fun v4 =>
    (ld (sI (sI (sI (sI h 12 7 ((h.1 12 7) - (1 : Int32))) 12 1 v2) 12 2 v3) 12 3 v4) 13 60 ((((h.1 12 7) - (1 : Int32)) * (5 : Int32)) + (3 : Int32))).bind fun v5 =>
    (ld (sI (sI (sI (sI (sI h 12 7 ((h.1 12 7) - (1 : Int32))) 12 1 v2) 12 2 v3) 12 3 v4) 12 4 v5) 13 60 ((((h.1 12 7) - (1 : Int32)) * (5 : Int32)) + (4 : Int32))).bind fun v6 =>
    some (((h.1 12 7) - (1 : Int32)), (sI (sI (sI (sI (sI (sI h 12 7 ((h.1 12 7) - (1 : Int32))) 12 1 v2) 12 2 v3) 12 3 v4) 12 4 v5) 12 5 v6))
noncomputable def X4_undo (h : Hp) : Option (Int32 × Hp) :=
  if (h.1 12 7) ≤ 0 then
    some ((-2 : Int32), h)
  else
    b2 (X1_takeBack h) fun v3 h2 =>
    some (v3, h2)
noncomputable def X3_needsAny (x1 : Int32) (h : Hp) : Option (Int32 × Hp) :=
  b2 (X3_of x1 (2 : Int32) h) fun v2 h1 =>
  if v2 = (99 : Int32) then
    some ((0 : Int32), h1)
  else
    some ((1 : Int32), h1)
noncomputable def X4_makingSense_b73 (K4 : Int32 → Int32 → Hp → Option (Int32 × Hp)) (x1 : Int32) (x2 : Int32) (h : Hp) : Option (Int32 × Hp) :=
  K4 x1 (x2 + (1 : Int32)) h
noncomputable def X4_makingSense_b48 (K4 : Int32 → Int32 → Hp → Option (Int32 × Hp)) (x1 : Int32) (x2 : Int32) (s0 : Int32) (h : Hp) : Option (Int32 × Hp) :=
  b2 (X4_bit (h.1 12 5) x2 h) fun v11 h10 =>
  if v11 = 0 then
    if s0 = 0 then
      X4_makingSense_b73 K4 x1 x2 h10
    else
      X4_makingSense_b73 K4 (x1 ||| ((1 : Int32) <<< (x2 &&& 31))) x2 h10
  else
    X4_makingSense_b73 K4 x1 x2 h10
noncomputable def X4_makingSense_b43 (K4 : Int32 → Int32 → Hp → Option (Int32 × Hp)) (x1 : Int32) (x2 : Int32) (h : Hp) : Option (Int32 × Hp) :=
  X4_makingSense_b48 K4 x1 x2 (1 : Int32) h
noncomputable def X4_makingSense_b4 (K4 : Int32 → Int32 → Hp → Option (Int32 × Hp)) (x1 : Int32) (x2 : Int32) (h : Hp) : Option (Int32 × Hp) :=
  if (h.1 12 1) ≤ x2 then
    some (x1, h)
  else
    b2 (X3_needsAny x2 h) fun v3 h2 =>
    if v3 = 0 then
      X4_makingSense_b43 K4 x1 x2 h2
    else
      b2 (X3_of x2 (2 : Int32) h2) fun v6 h5 =>
      b2 (X4_bit x1 v6 h5) fun v8 h7 =>
      if v8 = (1 : Int32) then
        X4_makingSense_b43 K4 x1 x2 h7
      else
        X4_makingSense_b48 K4 x1 x2 (0 : Int32) h7
noncomputable def X4_makingSense_l4 : Nat → Int32 → Int32 → Hp → Option (Int32 × Hp) := itr (X4_makingSense_b4) (fun _ _ _ => none)
noncomputable def X4_makingSense (h : Hp) : Option (Int32 × Hp) :=
  X4_makingSense_l4 fu (0 : Int32) (0 : Int32) h
noncomputable def X3_sum_b34 (K5 : Int32 → Int32 → Int32 → Int32 → Hp → Option (Int32 × Hp)) (x1 : Int32) (x2 : Int32) (x3 : Int32) (x4 : Int32) (h : Hp) : Option (Int32 × Hp) :=
  K5 x1 x2 x3 (x4 + (1 : Int32)) h
noncomputable def X3_sum_b5 (K5 : Int32 → Int32 → Int32 → Int32 → Hp → Option (Int32 × Hp)) (x1 : Int32) (x2 : Int32) (x3 : Int32) (x4 : Int32) (h : Hp) : Option (Int32 × Hp) :=
  if (h.1 4 3) ≤ x4 then
    some (x3, h)
  else
    b2 (X4_bit x1 x4 h) fun v3 h2 =>
    if v3 = (1 : Int32) then
      b2 (X3_of x4 x2 h2) fun v6 h5 =>
      X3_sum_b34 K5 x1 x2 (x3 + v6) x4 h5
    else
      X3_sum_b34 K5 x1 x2 x3 x4 h2
noncomputable def X3_sum_l5 : Nat → Int32 → Int32 → Int32 → Int32 → Hp → Option (Int32 × Hp) := itr (X3_sum_b5) (fun _ _ _ _ _ => none)
noncomputable def X3_sum (x1 : Int32) (x2 : Int32) (h : Hp) : Option (Int32 × Hp) :=
  X3_sum_l5 fu x1 x2 (0 : Int32) (0 : Int32) h
noncomputable def X4_now (x1 : Int32) (h : Hp) : Option (Int32 × Hp) :=
  if x1 = (0 : Int32) then
    some ((h.1 12 1), h)
  else
  if x1 = (1 : Int32) then
    some ((h.1 12 2), h)
  else
  if x1 = (2 : Int32) then
    some ((h.1 12 3), h)
  else
  if x1 = (3 : Int32) then
    some ((h.1 12 4), h)
  else
  if x1 = (4 : Int32) then
    some ((h.1 12 5), h)
  else
  if x1 = (5 : Int32) then
    b2 (X4_makingSense h) fun v2 h1 =>
    some (v2, h1)
  else
  if x1 = (6 : Int32) then
    b2 (X4_makingSense h) fun v4 h3 =>
    b2 (X3_sum v4 (1 : Int32) h3) fun v6 h5 =>
    some (v6, h5)
  else
    some ((-1 : Int32), h)
noncomputable def X4_isSize (x1 : Int32) (h : Hp) : Option (Int32 × Hp) :=
  b2 (X4_within x1 (h.1 4 4) (5 : Int32) h) fun v2 h1 =>
  zb v2 h1
noncomputable def X3_all (h : Hp) : Option (Int32 × Hp) :=
  some ((((1 : Int32) <<< ((h.1 4 3) &&& 31)) - (1 : Int32)), h)
noncomputable def X0_begin (x1 : Int32) (h : Hp) : Option (Hp) :=
  b2 (X3_wideOf (0 : Int32) (sI h 10 2 (0 : Int32))) fun v2 h1 =>
  some (sI (sI h1 10 3 (if (v2 - x1) < (0 : Int32) then (0 : Int32) else (v2 - x1))) 10 4 (1 : Int32))
noncomputable def X0_put_b50 (K50 : Int32 → Int32 → Int32 → Hp → Option (Int32 × Hp)) (x1 : Int32) (x2 : Int32) (x4 : Int32) (h : Hp) : Option (Int32 × Hp) :=
  if (h.1 4 2) ≤ x4 then
    some ((0 : Int32), h)
  else
    b2 (X3_wideOf x4 h) fun v5 h4 =>
    if v5 < (x1 * x2) then
      K50 x1 x2 (x4 + (1 : Int32)) h4
    else
      b2 (X3_wideOf x4 (sI h4 10 2 x4)) fun v8 h7 =>
      some ((1 : Int32), (sI h7 10 3 (v8 - (x1 * x2))))
noncomputable def X0_put_l50 : Nat → Int32 → Int32 → Int32 → Hp → Option (Int32 × Hp) := itr (X0_put_b50) (fun _ _ _ _ => none)
noncomputable def X0_put_b14 (x1 : Int32) (x2 : Int32) (s0 : Int32) (h : Hp) : Option (Int32 × Hp) :=
  if (h.1 10 3) < (s0 * x2) then
    X0_put_l50 fu x1 x2 ((h.1 10 2) + (1 : Int32)) (sI h 10 4 (0 : Int32))
  else
    some ((1 : Int32), (sI (sI h 10 4 (0 : Int32)) 10 3 ((h.1 10 3) - (s0 * x2))))
noncomputable def X0_put (x1 : Int32) (x2 : Int32) (h : Hp) : Option (Int32 × Hp) :=
  if (h.1 10 4) = 0 then
    X0_put_b14 x1 x2 (x1 + (1 : Int32)) h
  else
    X0_put_b14 x1 x2 x1 h
noncomputable def X0_goesOn_b74 (K8 : Int32 → Int32 → Int32 → Int32 → Hp → Option (Int32 × Hp)) (x1 : Int32) (x2 : Int32) (x3 : Int32) (x4 : Int32) (h : Hp) : Option (Int32 × Hp) :=
  K8 x1 x2 x3 (x4 + (1 : Int32)) h
noncomputable def X0_goesOn_b8 (K8 : Int32 → Int32 → Int32 → Int32 → Hp → Option (Int32 × Hp)) (x1 : Int32) (x2 : Int32) (x3 : Int32) (x4 : Int32) (h : Hp) : Option (Int32 × Hp) :=
  if (h.1 4 3) ≤ x4 then
    some ((1 : Int32), h)
  else
    b2 (X4_bit x2 x4 h) fun v4 h3 =>
    if v4 = (1 : Int32) then
      b2 (X3_of x4 (0 : Int32) h3) fun v7 h6 =>
      b2 (X4_bit x3 x4 h6) fun v9 h8 =>
      b2 (X0_put (v7 + (v9 * (2 : Int32))) x1 h8) fun v11 h10 =>
      if v11 = 0 then
        some ((0 : Int32), h10)
      else
        (st h10 11 10 x4 (h10.1 10 2)).bind fun h13 =>
        X0_goesOn_b74 K8 x1 x2 x3 x4 h13
    else
      X0_goesOn_b74 K8 x1 x2 x3 x4 h3
noncomputable def X0_goesOn_l8 : Nat → Int32 → Int32 → Int32 → Int32 → Hp → Option (Int32 × Hp) := itr (X0_goesOn_b8) (fun _ _ _ _ _ => none)
noncomputable def X0_goesOn (x1 : Int32) (x2 : Int32) (x3 : Int32) (h : Hp) : Option (Int32 × Hp) :=
  (X0_begin (0 : Int32) h).bind fun h1 =>
  X0_goesOn_l8 fu x1 x2 x3 (0 : Int32) h1
noncomputable def X4_fill (x1 : Int32) (x2 : Int32) (x3 : Int32) (h : Hp) : Option (Int32 × Hp) :=
  b2 (X4_isSize x1 h) fun v2 h1 =>
  if v2 = 0 then
    some ((-1 : Int32), h1)
  else
    b2 (X3_all h1) fun v5 h4 =>
    b2 (X4_within x2 (0 : Int32) v5 h4) fun v7 h6 =>
    if v7 = 0 then
      some ((-1 : Int32), h6)
    else
      b2 (X4_within x3 (0 : Int32) (1 : Int32) h6) fun v10 h9 =>
      if v10 = 0 then
        some ((-1 : Int32), h9)
      else
        if x2 = 0 then
          some ((-9 : Int32), h9)
        else
          b2 (X0_goesOn x1 x2 (0 : Int32) h9) fun v14 h13 =>
          if v14 = 0 then
            some ((-9 : Int32), h13)
          else
            if x3 = 0 then
              some ((h13.1 10 2), h13)
            else
              some ((h13.1 10 3), h13)
noncomputable def X4_greatest_b2 (K2 : Int32 → Hp → Option (Int32 × Hp)) (x1 : Int32) (h : Hp) : Option (Int32 × Hp) :=
  if x1 < (h.1 4 4) then
    some ((-9 : Int32), h)
  else
    b2 (X3_all h) fun v3 h2 =>
    b2 (X0_goesOn x1 v3 (0 : Int32) h2) fun v5 h4 =>
    if v5 = 0 then
      K2 (x1 + (-1 : Int32)) h4
    else
      some (x1, h4)
noncomputable def X4_greatest_l2 : Nat → Int32 → Hp → Option (Int32 × Hp) := itr (X4_greatest_b2) (fun _ _ => none)
noncomputable def X4_greatest (h : Hp) : Option (Int32 × Hp) :=
  X4_greatest_l2 fu (5 : Int32) h
noncomputable def X4_even_b18 (x1 : Int32) (h : Hp) : Option (Int32 × Hp) :=
  b2 (X4_greatest h) fun v6 h5 =>
  if x1 = (-1 : Int32) then
    if v6 = (-9 : Int32) then
      some (v6, h5)
    else
      some ((0 : Int32), h5)
  else
    some (v6, h5)
noncomputable def X4_even (x1 : Int32) (h : Hp) : Option (Int32 × Hp) :=
  if x1 = (-1 : Int32) then
    X4_even_b18 x1 h
  else
    b2 (X3_hasLine x1 h) fun v3 h2 =>
    if v3 = 0 then
      some ((-1 : Int32), h2)
    else
      X4_even_b18 x1 h2
noncomputable def X3_hasItsNeeds_b42 (K2 : Int32 → Int32 → Hp → Option (Int32 × Hp)) (x1 : Int32) (x2 : Int32) (h : Hp) : Option (Int32 × Hp) :=
  K2 x1 (x2 + (1 : Int32)) h
noncomputable def X3_hasItsNeeds_b2 (K2 : Int32 → Int32 → Hp → Option (Int32 × Hp)) (x1 : Int32) (x2 : Int32) (h : Hp) : Option (Int32 × Hp) :=
  if (h.1 4 3) ≤ x2 then
    some ((1 : Int32), h)
  else
    b2 (X4_bit x1 x2 h) fun v3 h2 =>
    if v3 = (1 : Int32) then
      b2 (X3_needsAny x2 h2) fun v6 h5 =>
      if v6 = 0 then
        X3_hasItsNeeds_b42 K2 x1 x2 h5
      else
        b2 (X3_of x2 (2 : Int32) h5) fun v9 h8 =>
        b2 (X4_bit x1 v9 h8) fun v11 h10 =>
        if v11 = 0 then
          some ((0 : Int32), h10)
        else
          X3_hasItsNeeds_b42 K2 x1 x2 h10
    else
      X3_hasItsNeeds_b42 K2 x1 x2 h2
noncomputable def X3_hasItsNeeds_l2 : Nat → Int32 → Int32 → Hp → Option (Int32 × Hp) := itr (X3_hasItsNeeds_b2) (fun _ _ _ => none)
noncomputable def X3_hasItsNeeds (x1 : Int32) (h : Hp) : Option (Int32 × Hp) :=
  X3_hasItsNeeds_l2 fu x1 (0 : Int32) h
noncomputable def X4_bestSet_b133 (K11 : Int32 → Int32 → Int32 → Int32 → Int32 → Int32 → Hp → Option (Int32 × Hp)) (x1 : Int32) (x2 : Int32) (x3 : Int32) (x4 : Int32) (x5 : Int32) (x6 : Int32) (h : Hp) : Option (Int32 × Hp) :=
  K11 x1 x2 x3 x4 x5 (x6 + (1 : Int32)) h
noncomputable def X4_bestSet_b122 (K11 : Int32 → Int32 → Int32 → Int32 → Int32 → Int32 → Hp → Option (Int32 × Hp)) (x1 : Int32) (x2 : Int32) (x6 : Int32) (x7 : Int32) (x8 : Int32) (h : Hp) : Option (Int32 × Hp) :=
  X4_bestSet_b133 K11 x1 x2 x6 x7 x8 x6 h
noncomputable def X4_bestSet_b97 (K11 : Int32 → Int32 → Int32 → Int32 → Int32 → Int32 → Hp → Option (Int32 × Hp)) (x1 : Int32) (x2 : Int32) (x3 : Int32) (x4 : Int32) (x5 : Int32) (x6 : Int32) (x7 : Int32) (x8 : Int32) (s0 : Int32) (h : Hp) : Option (Int32 × Hp) :=
  if s0 = 0 then
    X4_bestSet_b133 K11 x1 x2 x3 x4 x5 x6 h
  else
    if x1 = 0 then
      X4_bestSet_b122 K11 x1 x2 x6 x7 x8 h
    else
      b2 (X0_goesOn x1 x6 (0 : Int32) h) fun v20 h19 =>
      if v20 = 0 then
        X4_bestSet_b133 K11 x1 x2 x3 x4 x5 x6 h19
      else
        X4_bestSet_b122 K11 x1 x2 x6 x7 x8 h19
noncomputable def X4_bestSet_b92 (K11 : Int32 → Int32 → Int32 → Int32 → Int32 → Int32 → Hp → Option (Int32 × Hp)) (x1 : Int32) (x2 : Int32) (x3 : Int32) (x4 : Int32) (x5 : Int32) (x6 : Int32) (x7 : Int32) (x8 : Int32) (h : Hp) : Option (Int32 × Hp) :=
  X4_bestSet_b97 K11 x1 x2 x3 x4 x5 x6 x7 x8 (1 : Int32) h
noncomputable def X4_bestSet_b96 (K11 : Int32 → Int32 → Int32 → Int32 → Int32 → Int32 → Hp → Option (Int32 × Hp)) (x1 : Int32) (x2 : Int32) (x3 : Int32) (x4 : Int32) (x5 : Int32) (x6 : Int32) (x7 : Int32) (x8 : Int32) (h : Hp) : Option (Int32 × Hp) :=
  X4_bestSet_b97 K11 x1 x2 x3 x4 x5 x6 x7 x8 (0 : Int32) h
noncomputable def X4_bestSet_b11 (K11 : Int32 → Int32 → Int32 → Int32 → Int32 → Int32 → Hp → Option (Int32 × Hp)) (x1 : Int32) (x2 : Int32) (x3 : Int32) (x4 : Int32) (x5 : Int32) (x6 : Int32) (h : Hp) : Option (Int32 × Hp) :=
  b2 (X3_all h) fun v2 h1 =>
  if v2 < x6 then
    some (x3, h1)
  else
    b2 (J6_bitCount_0f7a4 x6 h1) fun v5 h4 =>
    if x2 < v5 then
      X4_bestSet_b133 K11 x1 x2 x3 x4 x5 x6 h4
    else
      b2 (X3_hasItsNeeds x6 h4) fun v8 h7 =>
      if v8 = 0 then
        X4_bestSet_b133 K11 x1 x2 x3 x4 x5 x6 h7
      else
        b2 (X3_sum x6 (1 : Int32) h7) fun v11 h10 =>
        b2 (X3_sum x6 (0 : Int32) h10) fun v13 h12 =>
        if x4 < v11 then
          X4_bestSet_b92 K11 x1 x2 x3 x4 x5 x6 v11 v13 h12
        else
          if v11 = x4 then
            if x5 ≤ v13 then
              X4_bestSet_b96 K11 x1 x2 x3 x4 x5 x6 v11 v13 h12
            else
              X4_bestSet_b92 K11 x1 x2 x3 x4 x5 x6 v11 v13 h12
          else
            X4_bestSet_b96 K11 x1 x2 x3 x4 x5 x6 v11 v13 h12
noncomputable def X4_bestSet_l11 : Nat → Int32 → Int32 → Int32 → Int32 → Int32 → Int32 → Hp → Option (Int32 × Hp) := itr (X4_bestSet_b11) (fun _ _ _ _ _ _ _ => none)
noncomputable def X4_bestSet (x1 : Int32) (x2 : Int32) (h : Hp) : Option (Int32 × Hp) :=
  X4_bestSet_l11 fu x1 x2 (0 : Int32) (0 : Int32) (0 : Int32) (1 : Int32) h
noncomputable def X4_kept (x1 : Int32) (x2 : Int32) (h : Hp) : Option (Int32 × Hp) :=
  b2 (X4_isSize x1 h) fun v2 h1 =>
  if v2 = 0 then
    some ((-1 : Int32), h1)
  else
    b2 (X4_within x2 (0 : Int32) (1 : Int32) h1) fun v5 h4 =>
    if v5 = 0 then
      some ((-1 : Int32), h4)
    else
      b2 (X4_bestSet x1 (10 : Int32) h4) fun v8 h7 =>
      if x2 = 0 then
        b2 (X3_sum v8 (1 : Int32) h7) fun v11 h10 =>
        some (v11, h10)
      else
        some (v8, h7)
noncomputable def X4_telegram (x1 : Int32) (x2 : Int32) (h : Hp) : Option (Int32 × Hp) :=
  b2 (X4_within x1 (0 : Int32) (10 : Int32) h) fun v2 h1 =>
  if v2 = 0 then
    some ((-1 : Int32), h1)
  else
    b2 (X4_within x2 (0 : Int32) (1 : Int32) h1) fun v5 h4 =>
    if v5 = 0 then
      some ((-1 : Int32), h4)
    else
      b2 (X4_bestSet (0 : Int32) x1 h4) fun v8 h7 =>
      if x2 = 0 then
        b2 (X3_sum v8 (1 : Int32) h7) fun v11 h10 =>
        some (v11, h10)
      else
        some (v8, h7)
noncomputable def X0_howFar_b7 (K7 : Int32 → Int32 → Hp → Option (Int32 × Hp)) (x1 : Int32) (x3 : Int32) (h : Hp) : Option (Int32 × Hp) :=
  if (h.1 4 3) ≤ x3 then
    some ((h.1 4 3), h)
  else
    b2 (X3_of x3 (0 : Int32) h) fun v4 h3 =>
    b2 (X0_put v4 x1 h3) fun v6 h5 =>
    if v6 = 0 then
      some (x3, h5)
    else
      K7 x1 (x3 + (1 : Int32)) h5
noncomputable def X0_howFar_l7 : Nat → Int32 → Int32 → Hp → Option (Int32 × Hp) := itr (X0_howFar_b7) (fun _ _ _ => none)
noncomputable def X0_howFar (x1 : Int32) (x2 : Int32) (h : Hp) : Option (Int32 × Hp) :=
  (X0_begin x2 h).bind fun h1 =>
  X0_howFar_l7 fu x1 (0 : Int32) h1
noncomputable def X4_begun (x1 : Int32) (x2 : Int32) (h : Hp) : Option (Int32 × Hp) :=
  b2 (X4_isSize x1 h) fun v2 h1 =>
  if v2 = 0 then
    some ((-1 : Int32), h1)
  else
    b2 (X4_within x2 (0 : Int32) (60 : Int32) h1) fun v5 h4 =>
    if v5 = 0 then
      some ((-1 : Int32), h4)
    else
      b2 (X0_howFar x1 x2 h4) fun v8 h7 =>
      some (v8, h7)
noncomputable def X4_power_b5 (K5 : Int32 → Int32 → Int64 → Int32 → Hp → Option (Int64 × Hp)) (x0 : Int32) (x1 : Int32) (x2 : Int64) (x4 : Int32) (h : Hp) : Option (Int64 × Hp) :=
  if x1 ≤ x4 then
    some (x2, h)
  else
    K5 x0 x1 (x2 * x0.toInt64) (x4 + (1 : Int32)) h
noncomputable def X4_power_l5 : Nat → Int32 → Int32 → Int64 → Int32 → Hp → Option (Int64 × Hp) := itr (X4_power_b5) (fun _ _ _ _ _ => none)
noncomputable def X4_power (x0 : Int32) (x1 : Int32) (h : Hp) : Option (Int64 × Hp) :=
  X4_power_l5 fu x0 x1 (1 : Int64) (0 : Int32) h
noncomputable def X4_leastTerm_b65 (K11 : Int64 → Int32 → Int32 → Int64 → Int32 → Hp → Option (Int64 × Hp)) (x0 : Int64) (x2 : Int32) (x3 : Int32) (x4 : Int64) (x6 : Int32) (h : Hp) : Option (Int64 × Hp) :=
  K11 x0 x2 x3 x4 (x6 + (1 : Int32)) h
noncomputable def X4_leastTerm_b41 (K11 : Int64 → Int32 → Int32 → Int64 → Int32 → Hp → Option (Int64 × Hp)) (x0 : Int64) (x2 : Int32) (x3 : Int32) (x4 : Int64) (x6 : Int32) (h : Hp) : Option (Int64 × Hp) :=
  if (lg_cmp (x0 - x0 / (5 : Int64) * (5 : Int64)) (0 : Int64)) = 0 then
    X4_leastTerm_b65 K11 (x0 / (5 : Int64)) x2 x3 (x4 / (5 : Int64)) x6 h
  else
    X4_leastTerm_b65 K11 x0 x2 x3 x4 x6 h
noncomputable def X4_leastTerm_b11 (K11 : Int64 → Int32 → Int32 → Int64 → Int32 → Hp → Option (Int64 × Hp)) (x0 : Int64) (x2 : Int32) (x3 : Int32) (x4 : Int64) (x6 : Int32) (h : Hp) : Option (Int64 × Hp) :=
  if x2 ≤ x6 then
    if x3 = 0 then
      some (x0, h)
    else
      some (x4, h)
  else
    if (lg_cmp (x0 - x0 / (2 : Int64) * (2 : Int64)) (0 : Int64)) = 0 then
      X4_leastTerm_b41 K11 (x0 / (2 : Int64)) x2 x3 (x4 / (2 : Int64)) x6 h
    else
      X4_leastTerm_b41 K11 x0 x2 x3 x4 x6 h
noncomputable def X4_leastTerm_l11 : Nat → Int64 → Int32 → Int32 → Int64 → Int32 → Hp → Option (Int64 × Hp) := itr (X4_leastTerm_b11) (fun _ _ _ _ _ _ => none)
noncomputable def X4_leastTerm (x0 : Int64) (x2 : Int32) (x3 : Int32) (h : Hp) : Option (Int64 × Hp) :=
  b2 (X4_power (10 : Int32) x2 h) fun v2 h1 =>
  X4_leastTerm_l11 fu x0 x2 x3 v2 (0 : Int32) h1
noncomputable def X4_odds_b111 (K51 : Int32 → Int32 → Int32 → Int32 → Int64 → Int32 → Hp → Option (Int64 × Hp)) (x1 : Int32) (x2 : Int32) (x3 : Int32) (x4 : Int32) (x5 : Int64) (x7 : Int32) (h : Hp) : Option (Int64 × Hp) :=
  K51 x1 x2 x3 x4 x5 (x7 + (1 : Int32)) h
noncomputable def X4_odds_b51 (K51 : Int32 → Int32 → Int32 → Int32 → Int64 → Int32 → Hp → Option (Int64 × Hp)) (x1 : Int32) (x2 : Int32) (x3 : Int32) (x4 : Int32) (x5 : Int64) (x7 : Int32) (h : Hp) : Option (Int64 × Hp) :=
  if ((1 : Int32) <<< (x4 &&& 31)) ≤ x7 then
    b2 (X4_leastTerm x5 x4 x3 h) fun v12 h11 =>
    some (v12, h11)
  else
    b2 (X3_all h) fun v14 h13 =>
    b2 (X0_goesOn x1 v14 x7 h13) fun v16 h15 =>
    if v16 = 0 then
      X4_odds_b111 K51 x1 x2 x3 x4 x5 x7 h15
    else
      b2 (J6_bitCount_0f7a4 x7 h15) fun v19 h18 =>
      b2 (X4_power x2 v19 h18) fun v21 h20 =>
      b2 (X4_power ((10 : Int32) - x2) (x4 - v19) h20) fun v23 h22 =>
      X4_odds_b111 K51 x1 x2 x3 x4 (x5 + (v21 * v23)) x7 h22
noncomputable def X4_odds_l51 : Nat → Int32 → Int32 → Int32 → Int32 → Int64 → Int32 → Hp → Option (Int64 × Hp) := itr (X4_odds_b51) (fun _ _ _ _ _ _ _ => none)
noncomputable def X4_odds (x1 : Int32) (x2 : Int32) (x3 : Int32) (h : Hp) : Option (Int64 × Hp) :=
  b2 (X4_isSize x1 h) fun v2 h1 =>
  if v2 = 0 then
    some ((-1 : Int64), h1)
  else
    b2 (X4_within x2 (0 : Int32) (10 : Int32) h1) fun v5 h4 =>
    if v5 = 0 then
      some ((-1 : Int64), h4)
    else
      b2 (X4_within x3 (0 : Int32) (1 : Int32) h4) fun v8 h7 =>
      if v8 = 0 then
        some ((-1 : Int64), h7)
      else
        X4_odds_l51 fu x1 x2 x3 (if (9 : Int32) < (h7.1 4 3) then (9 : Int32) else (h7.1 4 3)) (0 : Int64) (0 : Int32) h7
noncomputable def X4_saw (x1 : Int32) (x2 : Int32) (h : Hp) : Option (Int32 × Hp) :=
  b2 (X3_hasPiece x1 h) fun v2 h1 =>
  if v2 = 0 then
    some ((-1 : Int32), h1)
  else
    b2 (X3_hasLine x2 h1) fun v5 h4 =>
    if v5 = 0 then
      some ((-1 : Int32), h4)
    else
      if (h4.1 0 10) < (6 : Int32) then
        (st h4 18 6 (h4.1 0 10) x1).bind fun h8 =>
        (st h8 19 6 (h8.1 0 10) x2).bind fun h9 =>
        some (((h9.1 0 10) + (1 : Int32)), (sI h9 0 10 ((h9.1 0 10) + (1 : Int32))))
      else
        some ((-3 : Int32), h4)
noncomputable def X4_forget (h : Hp) : Option (Int32 × Hp) :=
  some ((h.1 0 10), (sI h 0 10 (0 : Int32)))
noncomputable def X0_lineOfPiece (x1 : Int32) (h : Hp) : Option (Int32 × Hp) :=
  b2 (X3_hasPiece x1 h) fun v2 h1 =>
  if v2 = 0 then
    some ((-9 : Int32), h1)
  else
    (ld h1 11 10 x1).bind fun v4 =>
    some (v4, h1)
noncomputable def X4_isAsSeen_b2 (K2 : Int32 → Hp → Option (Int32 × Hp)) (x1 : Int32) (h : Hp) : Option (Int32 × Hp) :=
  if (h.1 0 10) ≤ x1 then
    some ((1 : Int32), h)
  else
    (ld h 18 6 x1).bind fun v2 =>
    b2 (X0_lineOfPiece v2 h) fun v4 h3 =>
    (ld h3 19 6 x1).bind fun v5 =>
    if v4 = v5 then
      K2 (x1 + (1 : Int32)) h3
    else
      some ((0 : Int32), h3)
noncomputable def X4_isAsSeen_l2 : Nat → Int32 → Hp → Option (Int32 × Hp) := itr (X4_isAsSeen_b2) (fun _ _ => none)
noncomputable def X4_isAsSeen (h : Hp) : Option (Int32 × Hp) :=
  X4_isAsSeen_l2 fu (0 : Int32) h
noncomputable def X4_sizes_b47 (K10 : Int32 → Int32 → Hp → Option (Int32 × Hp)) (x1 : Int32) (x2 : Int32) (h : Hp) : Option (Int32 × Hp) :=
  K10 x1 (x2 + (1 : Int32)) h
noncomputable def X4_sizes_b10 (K10 : Int32 → Int32 → Hp → Option (Int32 × Hp)) (x1 : Int32) (x2 : Int32) (h : Hp) : Option (Int32 × Hp) :=
  if (5 : Int32) < x2 then
    some (x1, h)
  else
    b2 (X3_all h) fun v3 h2 =>
    b2 (X0_goesOn x2 v3 (0 : Int32) h2) fun v5 h4 =>
    if v5 = 0 then
      X4_sizes_b47 K10 x1 x2 h4
    else
      b2 (X4_isAsSeen h4) fun v8 h7 =>
      if v8 = 0 then
        X4_sizes_b47 K10 x1 x2 h7
      else
        X4_sizes_b47 K10 (x1 ||| ((1 : Int32) <<< (x2 &&& 31))) x2 h7
noncomputable def X4_sizes_l10 : Nat → Int32 → Int32 → Hp → Option (Int32 × Hp) := itr (X4_sizes_b10) (fun _ _ _ => none)
noncomputable def X4_sizes (h : Hp) : Option (Int32 × Hp) :=
  X4_sizes_l10 fu (0 : Int32) (h.1 4 4) h
noncomputable def X4_two_b76 (K21 : Int32 → Int32 → Int32 → Hp → Option (Int32 × Hp)) (x1 : Int32) (x2 : Int32) (x3 : Int32) (h : Hp) : Option (Int32 × Hp) :=
  K21 x1 x2 (x3 + (1 : Int32)) h
noncomputable def X4_two_b70 (K21 : Int32 → Int32 → Int32 → Hp → Option (Int32 × Hp)) (x1 : Int32) (x2 : Int32) (x3 : Int32) (h : Hp) : Option (Int32 × Hp) :=
  X4_two_b76 K21 x1 (x2 ||| ((1 : Int32) <<< (x3 &&& 31))) x3 h
noncomputable def X4_two_b21 (K21 : Int32 → Int32 → Int32 → Hp → Option (Int32 × Hp)) (x1 : Int32) (x2 : Int32) (x3 : Int32) (h : Hp) : Option (Int32 × Hp) :=
  if (h.1 4 3) ≤ x3 then
    b2 (J6_bitCount_0f7a4 x2 h) fun v6 h5 =>
    some (v6, h5)
  else
    b2 (X3_of x3 (2 : Int32) h) fun v8 h7 =>
    b2 (X3_needsAny x3 h7) fun v10 h9 =>
    if v10 = 0 then
      X4_two_b76 K21 x1 x2 x3 h9
    else
      if v8 < x1 then
        X4_two_b70 K21 x1 x2 x3 h9
      else
        b2 (X4_bit x2 v8 h9) fun v14 h13 =>
        if v14 = (1 : Int32) then
          X4_two_b70 K21 x1 x2 x3 h13
        else
          X4_two_b76 K21 x1 x2 x3 h13
noncomputable def X4_two_l21 : Nat → Int32 → Int32 → Int32 → Hp → Option (Int32 × Hp) := itr (X4_two_b21) (fun _ _ _ _ => none)
noncomputable def X4_two (x1 : Int32) (h : Hp) : Option (Int32 × Hp) :=
  b2 (X4_within x1 (0 : Int32) (h.1 4 3) h) fun v2 h1 =>
  if v2 = 0 then
    some ((-1 : Int32), h1)
  else
    X4_two_l21 fu x1 (0 : Int32) x1 h1
noncomputable def X4_asPiece (x1 : Int32) (h : Hp) : Option (Int32 × Hp) :=
  b2 (X3_of x1 (0 : Int32) (sL h 0 11 ((h.2 0 11) + (1 : Int64)))) fun v2 h1 =>
  some (v2, h1)
noncomputable def X4_asShort (x1 : Int32) (h : Hp) : Option (Int32 × Hp) :=
  b2 (X4_asPiece x1 (sL h 0 11 ((h.2 0 11) + (10 : Int64)))) fun v2 h1 =>
  b2 (X3_of x1 (1 : Int32) h1) fun v4 h3 =>
  some ((v2 + v4), h3)
noncomputable def X4_asLong (x1 : Int32) (h : Hp) : Option (Int32 × Hp) :=
  b2 (X4_asPiece x1 (sL h 0 11 ((h.2 0 11) + (100 : Int64)))) fun v2 h1 =>
  b2 (X3_of x1 (4 : Int32) h1) fun v4 h3 =>
  some ((v2 - v4), h3)
noncomputable def X4_asSign (x1 : Int32) (h : Hp) : Option (Int32 × Hp) :=
  b2 (X4_asShort x1 (sL h 0 11 ((h.2 0 11) + (1000 : Int64)))) fun v2 h1 =>
  some ((v2 * (2 : Int32)), h1)
noncomputable def X4_asMargin (x1 : Int32) (h : Hp) : Option (Int32 × Hp) :=
  b2 (X4_asLong x1 (sL h 0 11 ((h.2 0 11) + (10000 : Int64)))) fun v2 h1 =>
  some ((v2 + (h1.1 12 2)), h1)
noncomputable def X4_asKiss (x1 : Int32) (h : Hp) : Option (Int32 × Hp) :=
  b2 (X4_asPiece x1 (sL h 0 11 ((h.2 0 11) + (100000 : Int64)))) fun v2 h1 =>
  some ((v2 + (h1.1 12 4)), h1)
noncomputable def X4_mark (x1 : Int32) (x2 : Int32) (h : Hp) : Option (Int32 × Hp) :=
  b2 (X3_hasPiece x2 h) fun v2 h1 =>
  if v2 = 0 then
    some ((-1000000 : Int32), h1)
  else
    if x1 = (0 : Int32) then
      b2 (X4_asPiece x2 h1) fun v5 h4 =>
      some (v5, h4)
    else
    if x1 = (1 : Int32) then
      b2 (X4_asShort x2 h1) fun v7 h6 =>
      some (v7, h6)
    else
    if x1 = (2 : Int32) then
      b2 (X4_asLong x2 h1) fun v9 h8 =>
      some (v9, h8)
    else
    if x1 = (3 : Int32) then
      b2 (X4_asSign x2 h1) fun v11 h10 =>
      some (v11, h10)
    else
    if x1 = (4 : Int32) then
      b2 (X4_asMargin x2 h1) fun v13 h12 =>
      some (v13, h12)
    else
    if x1 = (5 : Int32) then
      b2 (X4_asKiss x2 h1) fun v15 h14 =>
      some (v15, h14)
    else
      some ((-1000000 : Int32), h1)
noncomputable def X4_imageOf (x1 : Int32) (h : Hp) : Option (Nat × Hp) :=
  if x1 = 0 then
    some (14, h)
  else
    some (16, h)
noncomputable def X1_become_14_12 (h : Hp) : Option (Hp) :=
  (cpc (sI (sI (sI (sI (sI h 14 1 (h.1 12 1)) 14 2 (h.1 12 2)) 14 3 (h.1 12 3)) 14 4 (h.1 12 4)) 14 5 (h.1 12 5)) 13 60 (0 : Int32) 15 60 (0 : Int32) (60 : Int32)).bind fun h1 =>
  some (sI h1 14 7 (h1.1 12 7))
noncomputable def X1_become_16_12 (h : Hp) : Option (Hp) :=
  (cpc (sI (sI (sI (sI (sI h 16 1 (h.1 12 1)) 16 2 (h.1 12 2)) 16 3 (h.1 12 3)) 16 4 (h.1 12 4)) 16 5 (h.1 12 5)) 13 60 (0 : Int32) 17 60 (0 : Int32) (60 : Int32)).bind fun h1 =>
  some (sI h1 16 7 (h1.1 12 7))
noncomputable def X4_keep (x1 : Int32) (h : Hp) : Option (Int32 × Hp) :=
  b2 (X4_within x1 (0 : Int32) (1 : Int32) h) fun v2 h1 =>
  if v2 = 0 then
    some ((-1 : Int32), h1)
  else
    b2 (X4_imageOf x1 h1) fun v5 h4 =>
    if v5 = 14 then
      (X1_become_14_12 h4).bind fun h6 =>
      some ((h6.1 12 1), (sI h6 0 7 ((h6.1 0 7) ||| ((1 : Int32) <<< (x1 &&& 31)))))
    else
    if v5 = 16 then
      (X1_become_16_12 h4).bind fun h7 =>
      some ((h7.1 12 1), (sI h7 0 7 ((h7.1 0 7) ||| ((1 : Int32) <<< (x1 &&& 31)))))
    else
      none
noncomputable def X1_become_12_14 (h : Hp) : Option (Hp) :=
  (cpc (sI (sI (sI (sI (sI h 12 1 (h.1 14 1)) 12 2 (h.1 14 2)) 12 3 (h.1 14 3)) 12 4 (h.1 14 4)) 12 5 (h.1 14 5)) 15 60 (0 : Int32) 13 60 (0 : Int32) (60 : Int32)).bind fun h1 =>
  some (sI h1 12 7 (h1.1 14 7))
noncomputable def X1_become_12_16 (h : Hp) : Option (Hp) :=
  (cpc (sI (sI (sI (sI (sI h 12 1 (h.1 16 1)) 12 2 (h.1 16 2)) 12 3 (h.1 16 3)) 12 4 (h.1 16 4)) 12 5 (h.1 16 5)) 17 60 (0 : Int32) 13 60 (0 : Int32) (60 : Int32)).bind fun h1 =>
  some (sI h1 12 7 (h1.1 16 7))
noncomputable def X4_back (x1 : Int32) (h : Hp) : Option (Int32 × Hp) :=
  b2 (X4_within x1 (0 : Int32) (1 : Int32) h) fun v2 h1 =>
  if v2 = 0 then
    some ((-1 : Int32), h1)
  else
    b2 (X4_bit (h1.1 0 7) x1 h1) fun v5 h4 =>
    if v5 = 0 then
      some ((-2 : Int32), h4)
    else
      b2 (X4_imageOf x1 h4) fun v8 h7 =>
      if v8 = 14 then
        (X1_become_12_14 h7).bind fun h9 =>
        some ((h9.1 12 1), h9)
      else
      if v8 = 16 then
        (X1_become_12_16 h7).bind fun h10 =>
        some ((h10.1 12 1), h10)
      else
        none
noncomputable def X4_count (x1 : Int32) (h : Hp) : Option (Int32 × Hp) :=
  if x1 = (0 : Int32) then
    some ((h.1 4 2), h)
  else
  if x1 = (1 : Int32) then
    some ((h.1 4 3), h)
  else
  if x1 = (2 : Int32) then
    some ((h.1 4 4), h)
  else
  if x1 = (3 : Int32) then
    some ((h.1 0 10), h)
  else
  if x1 = (4 : Int32) then
    some ((h.1 12 7), h)
  else
  if x1 = (5 : Int32) then
    some ((h.1 1 2), h)
  else
    some ((-1 : Int32), h)
noncomputable def X4_trace (h : Hp) : Option (Int64 × Hp) :=
  some ((h.2 0 11), h)
