abbrev rmX4_odds : Room := { frames := 5, cells := 0, slots := 0, locals := 113 }
set_option maxRecDepth 20000 in
theorem tb_X4_odds_111 {k : KX} (C : Cx k cX4_odds RX4 9 rmX4_odds) {r : Int64} {hf : Hp} (T : Rx k (some .long) (some (.long r)) hf) {K51 : Int32 → Int32 → Int32 → Int32 → Int64 → Int32 → Hp → Option (Int64 × Hp)} (hK51 : ∀ (x1 : Int32) (x2 : Int32) (x3 : Int32) (x4 : Int32) (x5 : Int64) (x7 : Int32) (h : Hp), K51 x1 x2 x3 x4 x5 x7 h = some (r, hf) → V k rmX4_odds 9 51 [(0, .ref 0), (1, .int x1), (2, .int x2), (3, .int x3), (4, .int x4), (5, .long x5), (7, .int x7)] [] h) (x1 : Int32) (x2 : Int32) (x3 : Int32) (x4 : Int32) (x5 : Int64) (x7 : Int32) (h : Hp) (hs : X4_odds_b111 K51 x1 x2 x3 x4 x5 x7 h = some (r, hf)) : V k rmX4_odds 9 111 [(0, .ref 0), (1, .int x1), (2, .int x2), (3, .int x3), (4, .int x4), (5, .long x5), (7, .int x7)] [] h := by
  unfold X4_odds_b111 at hs
  refine V.iinc (pc := 111) C (j := 6) (v := (x7 + (1 : Int32))) (lv2 := [(7, .int (x7 + (1 : Int32))), (0, .ref 0), (1, .int x1), (2, .int x2), (3, .int x3), (4, .int x4), (5, .long x5)]) dX4_odds_111 rfl rfl (by decide) rfl ?_
  refine V.goto (pc := 114) C (tgt := 51) dX4_odds_114 (by decide) ?_
  refine V.sub [1, 2, 3, 4, 5, 6, 0] rfl ?_
  exact hK51 _ _ _ _ _ _ _ hs
set_option maxRecDepth 20000 in
theorem tb_X4_odds_51 {k : KX} (C : Cx k cX4_odds RX4 9 rmX4_odds) {r : Int64} {hf : Hp} (T : Rx k (some .long) (some (.long r)) hf) {K51 : Int32 → Int32 → Int32 → Int32 → Int64 → Int32 → Hp → Option (Int64 × Hp)} (hK51 : ∀ (x1 : Int32) (x2 : Int32) (x3 : Int32) (x4 : Int32) (x5 : Int64) (x7 : Int32) (h : Hp), K51 x1 x2 x3 x4 x5 x7 h = some (r, hf) → V k rmX4_odds 9 51 [(0, .ref 0), (1, .int x1), (2, .int x2), (3, .int x3), (4, .int x4), (5, .long x5), (7, .int x7)] [] h) (x1 : Int32) (x2 : Int32) (x3 : Int32) (x4 : Int32) (x5 : Int64) (x7 : Int32) (h : Hp) (hs : X4_odds_b51 K51 x1 x2 x3 x4 x5 x7 h = some (r, hf)) : V k rmX4_odds 9 51 [(0, .ref 0), (1, .int x1), (2, .int x2), (3, .int x3), (4, .int x4), (5, .long x5), (7, .int x7)] [] h := by
  unfold X4_odds_b51 at hs
  refine V.iload (pc := 51) C dX4_odds_51 6 rfl ?_
  refine V.iconst (pc := 53) C (v := (1 : Int32)) dX4_odds_53 (by decide) ?_
  refine V.iload (pc := 54) C dX4_odds_54 4 rfl ?_
  refine V.ishl (pc := 56) C dX4_odds_56 ?_
  refine V.icmp_ge (pc := 57) C (tgt := 117) dX4_odds_57 (by decide) (fun c10 => ?_) (fun c10 => ?_)
  · have hs := o_if c10 hs
    refine V.lload (pc := 117) C dX4_odds_117 5 rfl ?_
    refine V.iload (pc := 119) C dX4_odds_119 4 rfl ?_
    refine V.iload_n (pc := 121) C dX4_odds_121 3 rfl ?_
    obtain ⟨v12, h11, ch11, hs⟩ := o_b2 hs
    refine V.callS (pc := 122) C (rm := rmX4_leastTerm) (y := yX4_leastTerm) (bytes := cX4_leastTerm) (maxL := 7) (ret := (some .long)) (n := 3) (As := [.long x5, .int x4, .int x3]) (rest := []) (rv := (some (.long v12))) (h1 := h11) (st0 := [.int x3, .int x4, .long x5]) (st2 := [.long v12]) (ct_X4_leastTerm (kL k) ch11) wf_511 wf_512 wf_49 wf_513 rfl rfl (by decide +kernel) ⟨by decide, by decide⟩ rfl (Nat.le_of_ble_eq_true rfl) dX4_odds_122 rfl rfl ?_
    exact V.lret (pc := 125) C T hs dX4_odds_125
  · have hs := o_el c10 hs
    refine V.aload_n (pc := 60) C dX4_odds_60 0 rfl ?_
    refine V.getf (pc := 61) C (o := 0) (j := 3) (v := .ref 10) (by decide) rfl rfl inX4 (by decide) (by decide) wf_198 rfl dX4_odds_61 ?_
    refine V.iload_n (pc := 64) C dX4_odds_64 1 rfl ?_
    refine V.aload_n (pc := 65) C dX4_odds_65 0 rfl ?_
    refine V.getf (pc := 66) C (o := 0) (j := 1) (v := .ref 4) (by decide) rfl rfl inX4 (by decide) (by decide) wf_196 rfl dX4_odds_66 ?_
    obtain ⟨v14, h13, ch13, hs⟩ := o_b2 hs
    refine V.callV (pc := 69) C (o := 4) (rm := rmX3_all) (y := yX3_all) (bytes := cX3_all) (maxL := 1) (ret := (some .int)) (n := 0) (As := []) (rest := [.int x1, .ref 10]) (rv := (some (.int v14))) (h1 := h13) (st0 := [.ref 4, .int x1, .ref 10]) (st2 := [.int v14, .int x1, .ref 10]) (by decide) rfl rfl (ct_X3_all (kL k) ch13) wf_445 wf_446 wf_447 wf_51 wf_448 rfl rfl (by decide +kernel) ⟨by decide, by decide⟩ rfl (Nat.le_of_ble_eq_true rfl) dX4_odds_69 rfl rfl ?_
    refine V.iload (pc := 72) C dX4_odds_72 6 rfl ?_
    obtain ⟨v16, h15, ch15, hs⟩ := o_b2 hs
    refine V.callV (pc := 74) C (o := 10) (rm := rmX0_goesOn) (y := yX0_goesOn) (bytes := cX0_goesOn) (maxL := 6) (ret := (some .boolean)) (n := 3) (As := [.int x1, .int v14, .int x7]) (rest := []) (rv := (some (.int v16))) (h1 := h15) (st0 := [.int x7, .int v14, .int x1, .ref 10]) (st2 := [.int v16]) (by decide) rfl rfl (ct_X0_goesOn (kL k) ch15) wf_449 wf_450 wf_451 wf_52 wf_452 rfl rfl (by decide +kernel) ⟨by decide, by decide⟩ rfl (Nat.le_of_ble_eq_true rfl) dX4_odds_74 rfl rfl ?_
    refine V.if_eq (pc := 77) C (tgt := 111) dX4_odds_77 (by decide) (fun c17 => ?_) (fun c17 => ?_)
    · have hs := o_if c17 hs
      refine V.sub [0, 1, 2, 3, 4, 5, 6] rfl ?_
      exact tb_X4_odds_111 C T hK51 _ _ _ _ _ _ _ hs
    · have hs := o_el c17 hs
      refine V.iload (pc := 80) C dX4_odds_80 6 rfl ?_
      obtain ⟨v19, h18, ch18, hs⟩ := o_b2 hs
      refine V.callS (pc := 82) C (rm := rmJ6_bitCount_0f7a4) (y := yJ6_bitCount_0f7a4) (bytes := cJ6_bitCount_0f7a4) (maxL := 1) (ret := (some .int)) (n := 1) (As := [.int x7]) (rest := []) (rv := (some (.int v19))) (h1 := h18) (st0 := [.int x7]) (st2 := [.int v19]) (ct_J6_bitCount_0f7a4 (kL k) ch18) wf_484 wf_390 wf_57 wf_391 rfl rfl (by decide +kernel) ⟨by decide, by decide⟩ rfl (Nat.le_of_ble_eq_true rfl) dX4_odds_82 rfl rfl ?_
      refine V.istore (pc := 85) C (i := 8) (lv2 := [(8, .int v19), (0, .ref 0), (1, .int x1), (2, .int x2), (3, .int x3), (4, .int x4), (5, .long x5), (7, .int x7)]) dX4_odds_85 (by decide) rfl ?_
      refine V.lload (pc := 87) C dX4_odds_87 6 rfl ?_
      refine V.iload_n (pc := 89) C dX4_odds_89 3 rfl ?_
      refine V.iload (pc := 90) C dX4_odds_90 0 rfl ?_
      obtain ⟨v21, h20, ch20, hs⟩ := o_b2 hs
      refine V.callS (pc := 92) C (rm := rmX4_power) (y := yX4_power) (bytes := cX4_power) (maxL := 5) (ret := (some .long)) (n := 2) (As := [.int x2, .int v19]) (rest := [.long x5]) (rv := (some (.long v21))) (h1 := h20) (st0 := [.int v19, .int x2, .long x5]) (st2 := [.long v21, .long x5]) (ct_X4_power (kL k) ch20) wf_508 wf_509 wf_49 wf_510 rfl rfl (by decide +kernel) ⟨by decide, by decide⟩ rfl (Nat.le_of_ble_eq_true rfl) dX4_odds_92 rfl rfl ?_
      refine V.bipush (pc := 95) C (v := (10 : Int32)) dX4_odds_95 (by decide) ?_
      refine V.iload_n (pc := 97) C dX4_odds_97 3 rfl ?_
      refine V.isub (pc := 98) C dX4_odds_98 ?_
      refine V.iload (pc := 99) C dX4_odds_99 5 rfl ?_
      refine V.iload (pc := 101) C dX4_odds_101 0 rfl ?_
      refine V.isub (pc := 103) C dX4_odds_103 ?_
      obtain ⟨v23, h22, ch22, hs⟩ := o_b2 hs
      refine V.callS (pc := 104) C (rm := rmX4_power) (y := yX4_power) (bytes := cX4_power) (maxL := 5) (ret := (some .long)) (n := 2) (As := [.int ((10 : Int32) - x2), .int (x4 - v19)]) (rest := [.long v21, .long x5]) (rv := (some (.long v23))) (h1 := h22) (st0 := [.int (x4 - v19), .int ((10 : Int32) - x2), .long v21, .long x5]) (st2 := [.long v23, .long v21, .long x5]) (ct_X4_power (kL k) ch22) wf_508 wf_509 wf_49 wf_510 rfl rfl (by decide +kernel) ⟨by decide, by decide⟩ rfl (Nat.le_of_ble_eq_true rfl) dX4_odds_104 rfl rfl ?_
      refine V.lmul (pc := 107) C dX4_odds_107 ?_
      refine V.ladd (pc := 108) C dX4_odds_108 ?_
      refine V.lstore (pc := 109) C (i := 5) (lv2 := [(5, .long (x5 + (v21 * v23))), (8, .int v19), (0, .ref 0), (1, .int x1), (2, .int x2), (3, .int x3), (4, .int x4), (7, .int x7)]) dX4_odds_109 (by decide) rfl ?_
      refine V.sub [2, 3, 4, 5, 6, 0, 7] rfl ?_
      exact tb_X4_odds_111 C T hK51 _ _ _ _ _ _ _ hs
theorem tl_X4_odds_51 {k : KX} (C : Cx k cX4_odds RX4 9 rmX4_odds) {r : Int64} {hf : Hp} (T : Rx k (some .long) (some (.long r)) hf) : ∀ (n : Nat) (x1 : Int32) (x2 : Int32) (x3 : Int32) (x4 : Int32) (x5 : Int64) (x7 : Int32) (h : Hp), X4_odds_l51 n x1 x2 x3 x4 x5 x7 h = some (r, hf) → V k rmX4_odds 9 51 [(0, .ref 0), (1, .int x1), (2, .int x2), (3, .int x3), (4, .int x4), (5, .long x5), (7, .int x7)] [] h := by
  intro n
  induction n with
  | zero => intro x1 x2 x3 x4 x5 x7 h hs; cases hs
  | succ n ih => intro x1 x2 x3 x4 x5 x7 h hs; exact tb_X4_odds_51 C T ih x1 x2 x3 x4 x5 x7 h hs
set_option maxRecDepth 20000 in
theorem ct_X4_odds (l : Launch) {x1 : Int32} {x2 : Int32} {x3 : Int32} {h hf : Hp} {r : Int64} (hs : X4_odds x1 x2 x3 h = some (r, hf)) : Ct l yX4_odds (Cond.code yX4_odds cX4_odds 9 (some .long) :: wsG) rmX4_odds [.ref 0, .int x1, .int x2, .int x3] h (some (.long r)) hf := by
  refine Ct.of (by decide +kernel) (fun _ => Nat.le_of_ble_eq_true rfl) (fun k C T => ?_)
  unfold X4_odds at hs
  show V k rmX4_odds 9 0 [(0, .ref 0), (1, .int x1), (2, .int x2), (3, .int x3)] [] h
  refine V.aload_n (pc := 0) C dX4_odds_0 0 rfl ?_
  refine V.iload_n (pc := 1) C dX4_odds_1 1 rfl ?_
  obtain ⟨v2, h1, ch1, hs⟩ := o_b2 hs
  refine V.callV (pc := 2) C (o := 0) (rm := rmX4_isSize) (y := yX4_isSize) (bytes := cX4_isSize) (maxL := 2) (ret := (some .boolean)) (n := 1) (As := [.int x1]) (rest := []) (rv := (some (.int v2))) (h1 := h1) (st0 := [.int x1, .ref 0]) (st2 := [.int v2]) (by decide) rfl rfl (ct_X4_isSize (kL k) ch1) wf_441 wf_443 wf_10 wf_49 wf_444 rfl rfl (by decide +kernel) ⟨by decide, by decide⟩ rfl (Nat.le_of_ble_eq_true rfl) dX4_odds_2 rfl rfl ?_
  refine V.if_eq (pc := 5) C (tgt := 27) dX4_odds_5 (by decide) (fun c3 => ?_) (fun c3 => ?_)
  · have hs := o_if c3 hs
    refine V.ldc2 (pc := 27) C wf_506 dX4_odds_27 ?_
    exact V.lret (pc := 30) C T hs dX4_odds_30
  · have hs := o_el c3 hs
    refine V.iload_n (pc := 8) C dX4_odds_8 2 rfl ?_
    refine V.iconst (pc := 9) C (v := (0 : Int32)) dX4_odds_9 (by decide) ?_
    refine V.bipush (pc := 10) C (v := (10 : Int32)) dX4_odds_10 (by decide) ?_
    obtain ⟨v5, h4, ch4, hs⟩ := o_b2 hs
    refine V.callS (pc := 12) C (rm := rmX4_within) (y := yX4_within) (bytes := cX4_within) (maxL := 3) (ret := (some .boolean)) (n := 3) (As := [.int x2, .int (0 : Int32), .int (10 : Int32)]) (rest := []) (rv := (some (.int v5))) (h1 := h4) (st0 := [.int (10 : Int32), .int (0 : Int32), .int x2]) (st2 := [.int v5]) (ct_X4_within (kL k) ch4) wf_236 wf_237 wf_49 wf_238 rfl rfl (by decide +kernel) ⟨by decide, by decide⟩ rfl (Nat.le_of_ble_eq_true rfl) dX4_odds_12 rfl rfl ?_
    refine V.if_eq (pc := 15) C (tgt := 27) dX4_odds_15 (by decide) (fun c6 => ?_) (fun c6 => ?_)
    · have hs := o_if c6 hs
      refine V.ldc2 (pc := 27) C wf_506 dX4_odds_27 ?_
      exact V.lret (pc := 30) C T hs dX4_odds_30
    · have hs := o_el c6 hs
      refine V.iload_n (pc := 18) C dX4_odds_18 3 rfl ?_
      refine V.iconst (pc := 19) C (v := (0 : Int32)) dX4_odds_19 (by decide) ?_
      refine V.iconst (pc := 20) C (v := (1 : Int32)) dX4_odds_20 (by decide) ?_
      obtain ⟨v8, h7, ch7, hs⟩ := o_b2 hs
      refine V.callS (pc := 21) C (rm := rmX4_within) (y := yX4_within) (bytes := cX4_within) (maxL := 3) (ret := (some .boolean)) (n := 3) (As := [.int x3, .int (0 : Int32), .int (1 : Int32)]) (rest := []) (rv := (some (.int v8))) (h1 := h7) (st0 := [.int (1 : Int32), .int (0 : Int32), .int x3]) (st2 := [.int v8]) (ct_X4_within (kL k) ch7) wf_236 wf_237 wf_49 wf_238 rfl rfl (by decide +kernel) ⟨by decide, by decide⟩ rfl (Nat.le_of_ble_eq_true rfl) dX4_odds_21 rfl rfl ?_
      refine V.if_ne (pc := 24) C (tgt := 31) dX4_odds_24 (by decide) (fun c9 => ?_) (fun c9 => ?_)
      · have hs := o_el c9 hs
        refine V.aload_n (pc := 31) C dX4_odds_31 0 rfl ?_
        refine V.getf (pc := 32) C (o := 0) (j := 1) (v := .ref 4) (by decide) rfl rfl inX4 (by decide) (by decide) wf_196 rfl dX4_odds_32 ?_
        refine V.getN (pc := 35) C (o := 4) (j := 3) (v := .int (h7.1 4 3)) (by decide) rfl rfl inX3 (by decide) (by decide) nw_10 rfl dX4_odds_35 ?_
        refine V.bipush (pc := 38) C (v := (9 : Int32)) dX4_odds_38 (by decide) ?_
        refine V.mmin (pc := 40) C ⟨wf_507, wf_273, wf_55, wf_274⟩ (by decide) (Nat.le_of_ble_eq_true rfl) dX4_odds_40 ?_
        refine V.istore (pc := 43) C (i := 4) (lv2 := [(4, .int (if (9 : Int32) < (h7.1 4 3) then (9 : Int32) else (h7.1 4 3))), (0, .ref 0), (1, .int x1), (2, .int x2), (3, .int x3)]) dX4_odds_43 (by decide) rfl ?_
        refine V.lconst (pc := 45) C (v := (0 : Int64)) dX4_odds_45 (by decide) ?_
        refine V.lstore (pc := 46) C (i := 5) (lv2 := [(5, .long (0 : Int64)), (4, .int (if (9 : Int32) < (h7.1 4 3) then (9 : Int32) else (h7.1 4 3))), (0, .ref 0), (1, .int x1), (2, .int x2), (3, .int x3)]) dX4_odds_46 (by decide) rfl ?_
        refine V.iconst (pc := 48) C (v := (0 : Int32)) dX4_odds_48 (by decide) ?_
        refine V.istore (pc := 49) C (i := 7) (lv2 := [(7, .int (0 : Int32)), (5, .long (0 : Int64)), (4, .int (if (9 : Int32) < (h7.1 4 3) then (9 : Int32) else (h7.1 4 3))), (0, .ref 0), (1, .int x1), (2, .int x2), (3, .int x3)]) dX4_odds_49 (by decide) rfl ?_
        refine V.sub [3, 4, 5, 6, 2, 1, 0] rfl ?_
        exact tl_X4_odds_51 C T fu _ _ _ _ _ _ _ hs
      · have hs := o_if c9 hs
        refine V.ldc2 (pc := 27) C wf_506 dX4_odds_27 ?_
        exact V.lret (pc := 30) C T hs dX4_odds_30
abbrev rmX4_saw : Room := { frames := 2, cells := 0, slots := 0, locals := 43 }
set_option maxRecDepth 20000 in
theorem ct_X4_saw (l : Launch) {x1 : Int32} {x2 : Int32} {h hf : Hp} {r : Int32} (hs : X4_saw x1 x2 h = some (r, hf)) : Ct l yX4_saw (Cond.code yX4_saw cX4_saw 3 (some .int) :: wsG) rmX4_saw [.ref 0, .int x1, .int x2] h (some (.int r)) hf := by
  refine Ct.of (by decide +kernel) (fun _ => Nat.le_of_ble_eq_true rfl) (fun k C T => ?_)
  unfold X4_saw at hs
  show V k rmX4_saw 3 0 [(0, .ref 0), (1, .int x1), (2, .int x2)] [] h
  refine V.aload_n (pc := 0) C dX4_saw_0 0 rfl ?_
  refine V.getf (pc := 1) C (o := 0) (j := 1) (v := .ref 4) (by decide) rfl rfl inX4 (by decide) (by decide) wf_196 rfl dX4_saw_1 ?_
  refine V.iload_n (pc := 4) C dX4_saw_4 1 rfl ?_
  obtain ⟨v2, h1, ch1, hs⟩ := o_b2 hs
  refine V.callV (pc := 5) C (o := 4) (rm := rmX3_hasPiece) (y := yX3_hasPiece) (bytes := cX3_hasPiece) (maxL := 2) (ret := (some .boolean)) (n := 1) (As := [.int x1]) (rest := []) (rv := (some (.int v2))) (h1 := h1) (st0 := [.int x1, .ref 4]) (st2 := [.int v2]) (by decide) rfl rfl (ct_X3_hasPiece (kL k) ch1) wf_333 wf_288 wf_289 wf_51 wf_290 rfl rfl (by decide +kernel) ⟨by decide, by decide⟩ rfl (Nat.le_of_ble_eq_true rfl) dX4_saw_5 rfl rfl ?_
  refine V.if_eq (pc := 8) C (tgt := 22) dX4_saw_8 (by decide) (fun c3 => ?_) (fun c3 => ?_)
  · have hs := o_if c3 hs
    refine V.iconst (pc := 22) C (v := (-1 : Int32)) dX4_saw_22 (by decide) ?_
    exact V.iret (pc := 23) C T hs dX4_saw_23
  · have hs := o_el c3 hs
    refine V.aload_n (pc := 11) C dX4_saw_11 0 rfl ?_
    refine V.getf (pc := 12) C (o := 0) (j := 1) (v := .ref 4) (by decide) rfl rfl inX4 (by decide) (by decide) wf_196 rfl dX4_saw_12 ?_
    refine V.iload_n (pc := 15) C dX4_saw_15 2 rfl ?_
    obtain ⟨v5, h4, ch4, hs⟩ := o_b2 hs
    refine V.callV (pc := 16) C (o := 4) (rm := rmX3_hasLine) (y := yX3_hasLine) (bytes := cX3_hasLine) (maxL := 2) (ret := (some .boolean)) (n := 1) (As := [.int x2]) (rest := []) (rv := (some (.int v5))) (h1 := h4) (st0 := [.int x2, .ref 4]) (st2 := [.int v5]) (by decide) rfl rfl (ct_X3_hasLine (kL k) ch4) wf_327 wf_320 wf_321 wf_51 wf_322 rfl rfl (by decide +kernel) ⟨by decide, by decide⟩ rfl (Nat.le_of_ble_eq_true rfl) dX4_saw_16 rfl rfl ?_
    refine V.if_ne (pc := 19) C (tgt := 24) dX4_saw_19 (by decide) (fun c6 => ?_) (fun c6 => ?_)
    · have hs := o_el c6 hs
      refine V.aload_n (pc := 24) C dX4_saw_24 0 rfl ?_
      refine V.getf (pc := 25) C (o := 0) (j := 10) (v := .int (h4.1 0 10)) (by decide) rfl rfl inX4 (by decide) (by decide) wf_205 rfl dX4_saw_25 ?_
      refine V.bipush (pc := 28) C (v := (6 : Int32)) dX4_saw_28 (by decide) ?_
      refine V.icmp_lt (pc := 30) C (tgt := 36) dX4_saw_30 (by decide) (fun c7 => ?_) (fun c7 => ?_)
      · have hs := o_if c7 hs
        refine V.aload_n (pc := 36) C dX4_saw_36 0 rfl ?_
        refine V.getf (pc := 37) C (o := 0) (j := 8) (v := .ref 18) (by decide) rfl rfl inX4 (by decide) (by decide) wf_203 rfl dX4_saw_37 ?_
        refine V.aload_n (pc := 40) C dX4_saw_40 0 rfl ?_
        refine V.getf (pc := 41) C (o := 0) (j := 10) (v := .int (h4.1 0 10)) (by decide) rfl rfl inX4 (by decide) (by decide) wf_205 rfl dX4_saw_41 ?_
        refine V.iload_n (pc := 44) C dX4_saw_44 1 rfl ?_
        obtain ⟨h8, eh8, bh8, hs⟩ := o_st hs
        refine V.iast (pc := 45) C (o := 18) (h2 := h8) (by decide) rfl rfl bh8 eh8 dX4_saw_45 ?_
        refine V.aload_n (pc := 46) C dX4_saw_46 0 rfl ?_
        refine V.getf (pc := 47) C (o := 0) (j := 9) (v := .ref 19) (by decide) rfl rfl inX4 (by decide) (by decide) wf_204 rfl dX4_saw_47 ?_
        refine V.aload_n (pc := 50) C dX4_saw_50 0 rfl ?_
        refine V.getf (pc := 51) C (o := 0) (j := 10) (v := .int (h8.1 0 10)) (by decide) rfl rfl inX4 (by decide) (by decide) wf_205 rfl dX4_saw_51 ?_
        refine V.iload_n (pc := 54) C dX4_saw_54 2 rfl ?_
        obtain ⟨h9, eh9, bh9, hs⟩ := o_st hs
        refine V.iast (pc := 55) C (o := 19) (h2 := h9) (by decide) rfl rfl bh9 eh9 dX4_saw_55 ?_
        refine V.aload_n (pc := 56) C dX4_saw_56 0 rfl ?_
        refine V.dup (pc := 57) C dX4_saw_57 rfl ?_
        refine V.getf (pc := 58) C (o := 0) (j := 10) (v := .int (h9.1 0 10)) (by decide) rfl rfl inX4 (by decide) (by decide) wf_205 rfl dX4_saw_58 ?_
        refine V.iconst (pc := 61) C (v := (1 : Int32)) dX4_saw_61 (by decide) ?_
        refine V.iadd (pc := 62) C dX4_saw_62 ?_
        refine V.put (pc := 63) C (o := 0) (j := 10) (v := ((h9.1 0 10) + (1 : Int32))) (by decide) rfl rfl inX4 (by decide) (by decide) wf_205 tyX4 tyX4_ok nmX4 rfl rfl rfl rfl dX4_saw_63 ?_
        refine V.aload_n (pc := 66) C dX4_saw_66 0 rfl ?_
        refine V.getf (pc := 67) C (o := 0) (j := 10) (v := .int ((h9.1 0 10) + (1 : Int32))) (by decide) rfl rfl inX4 (by decide) (by decide) wf_205 rfl dX4_saw_67 ?_
        exact V.iret (pc := 70) C T hs dX4_saw_70
      · have hs := o_el c7 hs
        refine V.bipush (pc := 33) C (v := (-3 : Int32)) dX4_saw_33 (by decide) ?_
        exact V.iret (pc := 35) C T hs dX4_saw_35
    · have hs := o_if c6 hs
      refine V.iconst (pc := 22) C (v := (-1 : Int32)) dX4_saw_22 (by decide) ?_
      exact V.iret (pc := 23) C T hs dX4_saw_23
abbrev rmX4_forget : Room := { frames := 0, cells := 0, slots := 0, locals := 0 }
set_option maxRecDepth 20000 in
theorem ct_X4_forget (l : Launch) {h hf : Hp} {r : Int32} (hs : X4_forget h = some (r, hf)) : Ct l yX4_forget (Cond.code yX4_forget cX4_forget 2 (some .int) :: wsG) rmX4_forget [.ref 0] h (some (.int r)) hf := by
  refine Ct.of (by decide +kernel) (fun _ => Nat.le_of_ble_eq_true rfl) (fun k C T => ?_)
  unfold X4_forget at hs
  show V k rmX4_forget 2 0 [(0, .ref 0)] [] h
  refine V.aload_n (pc := 0) C dX4_forget_0 0 rfl ?_
  refine V.getf (pc := 1) C (o := 0) (j := 10) (v := .int (h.1 0 10)) (by decide) rfl rfl inX4 (by decide) (by decide) wf_205 rfl dX4_forget_1 ?_
  refine V.istore_n (pc := 4) C (i := 1) (lv2 := [(1, .int (h.1 0 10)), (0, .ref 0)]) dX4_forget_4 rfl (by decide) rfl ?_
  refine V.aload_n (pc := 5) C dX4_forget_5 1 rfl ?_
  refine V.iconst (pc := 6) C (v := (0 : Int32)) dX4_forget_6 (by decide) ?_
  refine V.put (pc := 7) C (o := 0) (j := 10) (v := (0 : Int32)) (by decide) rfl rfl inX4 (by decide) (by decide) wf_205 tyX4 tyX4_ok nmX4 rfl rfl rfl rfl dX4_forget_7 ?_
  refine V.iload_n (pc := 10) C dX4_forget_10 0 rfl ?_
  exact V.iret (pc := 11) C T hs dX4_forget_11
abbrev rmX0_lineOfPiece : Room := { frames := 2, cells := 0, slots := 0, locals := 43 }
set_option maxRecDepth 20000 in
theorem ct_X0_lineOfPiece (l : Launch) {x1 : Int32} {h hf : Hp} {r : Int32} (hs : X0_lineOfPiece x1 h = some (r, hf)) : Ct l yX0_lineOfPiece (Cond.code yX0_lineOfPiece cX0_lineOfPiece 2 (some .int) :: wsG) rmX0_lineOfPiece [.ref 10, .int x1] h (some (.int r)) hf := by
  refine Ct.of (by decide +kernel) (fun _ => Nat.le_of_ble_eq_true rfl) (fun k C T => ?_)
  unfold X0_lineOfPiece at hs
  show V k rmX0_lineOfPiece 2 0 [(0, .ref 10), (1, .int x1)] [] h
  refine V.aload_n (pc := 0) C dX0_lineOfPiece_0 0 rfl ?_
  refine V.getf (pc := 1) C (o := 10) (j := 0) (v := .ref 4) (by decide) rfl rfl inX0 (by decide) (by decide) wf_140 rfl dX0_lineOfPiece_1 ?_
  refine V.iload_n (pc := 4) C dX0_lineOfPiece_4 1 rfl ?_
  obtain ⟨v2, h1, ch1, hs⟩ := o_b2 hs
  refine V.callV (pc := 5) C (o := 4) (rm := rmX3_hasPiece) (y := yX3_hasPiece) (bytes := cX3_hasPiece) (maxL := 2) (ret := (some .boolean)) (n := 1) (As := [.int x1]) (rest := []) (rv := (some (.int v2))) (h1 := h1) (st0 := [.int x1, .ref 4]) (st2 := [.int v2]) (by decide) rfl rfl (ct_X3_hasPiece (kL k) ch1) wf_536 wf_288 wf_289 wf_51 wf_290 rfl rfl (by decide +kernel) ⟨by decide, by decide⟩ rfl (Nat.le_of_ble_eq_true rfl) dX0_lineOfPiece_5 rfl rfl ?_
  refine V.if_eq (pc := 8) C (tgt := 20) dX0_lineOfPiece_8 (by decide) (fun c3 => ?_) (fun c3 => ?_)
  · have hs := o_if c3 hs
    refine V.bipush (pc := 20) C (v := (-9 : Int32)) dX0_lineOfPiece_20 (by decide) ?_
    exact V.iret (pc := 22) C T hs dX0_lineOfPiece_22
  · have hs := o_el c3 hs
    refine V.aload_n (pc := 11) C dX0_lineOfPiece_11 0 rfl ?_
    refine V.getf (pc := 12) C (o := 10) (j := 1) (v := .ref 11) (by decide) rfl rfl inX0 (by decide) (by decide) wf_141 rfl dX0_lineOfPiece_12 ?_
    refine V.iload_n (pc := 15) C dX0_lineOfPiece_15 1 rfl ?_
    obtain ⟨v4, ev4, bv4, hs⟩ := o_ld hs
    refine V.iald (pc := 16) C (o := 11) (v := v4) (by decide) rfl rfl bv4 ev4 dX0_lineOfPiece_16 ?_
    refine V.goto (pc := 17) C (tgt := 22) dX0_lineOfPiece_17 (by decide) ?_
    exact V.iret (pc := 22) C T hs dX0_lineOfPiece_22
abbrev rmX4_isAsSeen : Room := { frames := 3, cells := 0, slots := 0, locals := 64 }
set_option maxRecDepth 20000 in
theorem tb_X4_isAsSeen_2 {k : KX} (C : Cx k cX4_isAsSeen RX4 2 rmX4_isAsSeen) {r : Int32} {hf : Hp} (T : Rx k (some .boolean) (some (.int r)) hf) {K2 : Int32 → Hp → Option (Int32 × Hp)} (hK2 : ∀ (x1 : Int32) (h : Hp), K2 x1 h = some (r, hf) → V k rmX4_isAsSeen 2 2 [(0, .ref 0), (1, .int x1)] [] h) (x1 : Int32) (h : Hp) (hs : X4_isAsSeen_b2 K2 x1 h = some (r, hf)) : V k rmX4_isAsSeen 2 2 [(0, .ref 0), (1, .int x1)] [] h := by
  unfold X4_isAsSeen_b2 at hs
  refine V.iload_n (pc := 2) C dX4_isAsSeen_2 1 rfl ?_
  refine V.aload_n (pc := 3) C dX4_isAsSeen_3 0 rfl ?_
  refine V.getf (pc := 4) C (o := 0) (j := 10) (v := .int (h.1 0 10)) (by decide) rfl rfl inX4 (by decide) (by decide) wf_205 rfl dX4_isAsSeen_4 ?_
  refine V.icmp_ge (pc := 7) C (tgt := 40) dX4_isAsSeen_7 (by decide) (fun c1 => ?_) (fun c1 => ?_)
  · have hs := o_if c1 hs
    refine V.iconst (pc := 40) C (v := (1 : Int32)) dX4_isAsSeen_40 (by decide) ?_
    exact V.zret (pc := 41) C T (by decide) hs dX4_isAsSeen_41
  · have hs := o_el c1 hs
    refine V.aload_n (pc := 10) C dX4_isAsSeen_10 0 rfl ?_
    refine V.getf (pc := 11) C (o := 0) (j := 3) (v := .ref 10) (by decide) rfl rfl inX4 (by decide) (by decide) wf_198 rfl dX4_isAsSeen_11 ?_
    refine V.aload_n (pc := 14) C dX4_isAsSeen_14 0 rfl ?_
    refine V.getf (pc := 15) C (o := 0) (j := 8) (v := .ref 18) (by decide) rfl rfl inX4 (by decide) (by decide) wf_203 rfl dX4_isAsSeen_15 ?_
    refine V.iload_n (pc := 18) C dX4_isAsSeen_18 1 rfl ?_
    obtain ⟨v2, ev2, bv2, hs⟩ := o_ld hs
    refine V.iald (pc := 19) C (o := 18) (v := v2) (by decide) rfl rfl bv2 ev2 dX4_isAsSeen_19 ?_
    obtain ⟨v4, h3, ch3, hs⟩ := o_b2 hs
    refine V.callV (pc := 20) C (o := 10) (rm := rmX0_lineOfPiece) (y := yX0_lineOfPiece) (bytes := cX0_lineOfPiece) (maxL := 2) (ret := (some .int)) (n := 1) (As := [.int v2]) (rest := []) (rv := (some (.int v4))) (h1 := h3) (st0 := [.int v2, .ref 10]) (st2 := [.int v4]) (by decide) rfl rfl (ct_X0_lineOfPiece (kL k) ch3) wf_532 wf_533 wf_534 wf_52 wf_535 rfl rfl (by decide +kernel) ⟨by decide, by decide⟩ rfl (Nat.le_of_ble_eq_true rfl) dX4_isAsSeen_20 rfl rfl ?_
    refine V.aload_n (pc := 23) C dX4_isAsSeen_23 0 rfl ?_
    refine V.getf (pc := 24) C (o := 0) (j := 9) (v := .ref 19) (by decide) rfl rfl inX4 (by decide) (by decide) wf_204 rfl dX4_isAsSeen_24 ?_
    refine V.iload_n (pc := 27) C dX4_isAsSeen_27 1 rfl ?_
    obtain ⟨v5, ev5, bv5, hs⟩ := o_ld hs
    refine V.iald (pc := 28) C (o := 19) (v := v5) (by decide) rfl rfl bv5 ev5 dX4_isAsSeen_28 ?_
    refine V.icmp_eq (pc := 29) C (tgt := 34) dX4_isAsSeen_29 (by decide) (fun c6 => ?_) (fun c6 => ?_)
    · have hs := o_if c6 hs
      refine V.iinc (pc := 34) C (j := 1) (v := (x1 + (1 : Int32))) (lv2 := [(1, .int (x1 + (1 : Int32))), (0, .ref 0)]) dX4_isAsSeen_34 rfl rfl (by decide) rfl ?_
      refine V.goto (pc := 37) C (tgt := 2) dX4_isAsSeen_37 (by decide) ?_
      refine V.sub [1, 0] rfl ?_
      exact hK2 _ _ hs
    · have hs := o_el c6 hs
      refine V.iconst (pc := 32) C (v := (0 : Int32)) dX4_isAsSeen_32 (by decide) ?_
      exact V.zret (pc := 33) C T (by decide) hs dX4_isAsSeen_33
theorem tl_X4_isAsSeen_2 {k : KX} (C : Cx k cX4_isAsSeen RX4 2 rmX4_isAsSeen) {r : Int32} {hf : Hp} (T : Rx k (some .boolean) (some (.int r)) hf) : ∀ (n : Nat) (x1 : Int32) (h : Hp), X4_isAsSeen_l2 n x1 h = some (r, hf) → V k rmX4_isAsSeen 2 2 [(0, .ref 0), (1, .int x1)] [] h := by
  intro n
  induction n with
  | zero => intro x1 h hs; cases hs
  | succ n ih => intro x1 h hs; exact tb_X4_isAsSeen_2 C T ih x1 h hs
set_option maxRecDepth 20000 in
theorem ct_X4_isAsSeen (l : Launch) {h hf : Hp} {r : Int32} (hs : X4_isAsSeen h = some (r, hf)) : Ct l yX4_isAsSeen (Cond.code yX4_isAsSeen cX4_isAsSeen 2 (some .boolean) :: wsG) rmX4_isAsSeen [.ref 0] h (some (.int r)) hf := by
  refine Ct.of (by decide +kernel) (fun _ => Nat.le_of_ble_eq_true rfl) (fun k C T => ?_)
  unfold X4_isAsSeen at hs
  show V k rmX4_isAsSeen 2 0 [(0, .ref 0)] [] h
  refine V.iconst (pc := 0) C (v := (0 : Int32)) dX4_isAsSeen_0 (by decide) ?_
  refine V.istore_n (pc := 1) C (i := 1) (lv2 := [(1, .int (0 : Int32)), (0, .ref 0)]) dX4_isAsSeen_1 rfl (by decide) rfl ?_
  refine V.sub [1, 0] rfl ?_
  exact tl_X4_isAsSeen_2 C T fu _ _ hs
abbrev rmX4_sizes : Room := { frames := 5, cells := 0, slots := 0, locals := 113 }
set_option maxRecDepth 20000 in
theorem tb_X4_sizes_47 {k : KX} (C : Cx k cX4_sizes RX4 3 rmX4_sizes) {r : Int32} {hf : Hp} (T : Rx k (some .int) (some (.int r)) hf) {K10 : Int32 → Int32 → Hp → Option (Int32 × Hp)} (hK10 : ∀ (x1 : Int32) (x2 : Int32) (h : Hp), K10 x1 x2 h = some (r, hf) → V k rmX4_sizes 3 10 [(0, .ref 0), (1, .int x1), (2, .int x2)] [] h) (x1 : Int32) (x2 : Int32) (h : Hp) (hs : X4_sizes_b47 K10 x1 x2 h = some (r, hf)) : V k rmX4_sizes 3 47 [(0, .ref 0), (1, .int x1), (2, .int x2)] [] h := by
  unfold X4_sizes_b47 at hs
  refine V.iinc (pc := 47) C (j := 2) (v := (x2 + (1 : Int32))) (lv2 := [(2, .int (x2 + (1 : Int32))), (0, .ref 0), (1, .int x1)]) dX4_sizes_47 rfl rfl (by decide) rfl ?_
  refine V.goto (pc := 50) C (tgt := 10) dX4_sizes_50 (by decide) ?_
  refine V.sub [1, 2, 0] rfl ?_
  exact hK10 _ _ _ hs
set_option maxRecDepth 20000 in
theorem tb_X4_sizes_10 {k : KX} (C : Cx k cX4_sizes RX4 3 rmX4_sizes) {r : Int32} {hf : Hp} (T : Rx k (some .int) (some (.int r)) hf) {K10 : Int32 → Int32 → Hp → Option (Int32 × Hp)} (hK10 : ∀ (x1 : Int32) (x2 : Int32) (h : Hp), K10 x1 x2 h = some (r, hf) → V k rmX4_sizes 3 10 [(0, .ref 0), (1, .int x1), (2, .int x2)] [] h) (x1 : Int32) (x2 : Int32) (h : Hp) (hs : X4_sizes_b10 K10 x1 x2 h = some (r, hf)) : V k rmX4_sizes 3 10 [(0, .ref 0), (1, .int x1), (2, .int x2)] [] h := by
  unfold X4_sizes_b10 at hs
  refine V.iload_n (pc := 10) C dX4_sizes_10 2 rfl ?_
  refine V.iconst (pc := 11) C (v := (5 : Int32)) dX4_sizes_11 (by decide) ?_
  refine V.icmp_gt (pc := 12) C (tgt := 53) dX4_sizes_12 (by decide) (fun c1 => ?_) (fun c1 => ?_)
  · have hs := o_if c1 hs
    refine V.iload_n (pc := 53) C dX4_sizes_53 1 rfl ?_
    exact V.iret (pc := 54) C T hs dX4_sizes_54
  · have hs := o_el c1 hs
    refine V.aload_n (pc := 15) C dX4_sizes_15 0 rfl ?_
    refine V.getf (pc := 16) C (o := 0) (j := 3) (v := .ref 10) (by decide) rfl rfl inX4 (by decide) (by decide) wf_198 rfl dX4_sizes_16 ?_
    refine V.iload_n (pc := 19) C dX4_sizes_19 2 rfl ?_
    refine V.aload_n (pc := 20) C dX4_sizes_20 0 rfl ?_
    refine V.getf (pc := 21) C (o := 0) (j := 1) (v := .ref 4) (by decide) rfl rfl inX4 (by decide) (by decide) wf_196 rfl dX4_sizes_21 ?_
    obtain ⟨v3, h2, ch2, hs⟩ := o_b2 hs
    refine V.callV (pc := 24) C (o := 4) (rm := rmX3_all) (y := yX3_all) (bytes := cX3_all) (maxL := 1) (ret := (some .int)) (n := 0) (As := []) (rest := [.int x2, .ref 10]) (rv := (some (.int v3))) (h1 := h2) (st0 := [.ref 4, .int x2, .ref 10]) (st2 := [.int v3, .int x2, .ref 10]) (by decide) rfl rfl (ct_X3_all (kL k) ch2) wf_445 wf_446 wf_447 wf_51 wf_448 rfl rfl (by decide +kernel) ⟨by decide, by decide⟩ rfl (Nat.le_of_ble_eq_true rfl) dX4_sizes_24 rfl rfl ?_
    refine V.iconst (pc := 27) C (v := (0 : Int32)) dX4_sizes_27 (by decide) ?_
    obtain ⟨v5, h4, ch4, hs⟩ := o_b2 hs
    refine V.callV (pc := 28) C (o := 10) (rm := rmX0_goesOn) (y := yX0_goesOn) (bytes := cX0_goesOn) (maxL := 6) (ret := (some .boolean)) (n := 3) (As := [.int x2, .int v3, .int (0 : Int32)]) (rest := []) (rv := (some (.int v5))) (h1 := h4) (st0 := [.int (0 : Int32), .int v3, .int x2, .ref 10]) (st2 := [.int v5]) (by decide) rfl rfl (ct_X0_goesOn (kL k) ch4) wf_449 wf_450 wf_451 wf_52 wf_452 rfl rfl (by decide +kernel) ⟨by decide, by decide⟩ rfl (Nat.le_of_ble_eq_true rfl) dX4_sizes_28 rfl rfl ?_
    refine V.if_eq (pc := 31) C (tgt := 47) dX4_sizes_31 (by decide) (fun c6 => ?_) (fun c6 => ?_)
    · have hs := o_if c6 hs
      refine V.sub [0, 1, 2] rfl ?_
      exact tb_X4_sizes_47 C T hK10 _ _ _ hs
    · have hs := o_el c6 hs
      refine V.aload_n (pc := 34) C dX4_sizes_34 0 rfl ?_
      obtain ⟨v8, h7, ch7, hs⟩ := o_b2 hs
      refine V.callV (pc := 35) C (o := 0) (rm := rmX4_isAsSeen) (y := yX4_isAsSeen) (bytes := cX4_isAsSeen) (maxL := 2) (ret := (some .boolean)) (n := 0) (As := []) (rest := []) (rv := (some (.int v8))) (h1 := h7) (st0 := [.ref 0]) (st2 := [.int v8]) (by decide) rfl rfl (ct_X4_isAsSeen (kL k) ch7) wf_528 wf_530 wf_14 wf_49 wf_531 rfl rfl (by decide +kernel) ⟨by decide, by decide⟩ rfl (Nat.le_of_ble_eq_true rfl) dX4_sizes_35 rfl rfl ?_
      refine V.if_eq (pc := 38) C (tgt := 47) dX4_sizes_38 (by decide) (fun c9 => ?_) (fun c9 => ?_)
      · have hs := o_if c9 hs
        refine V.sub [0, 1, 2] rfl ?_
        exact tb_X4_sizes_47 C T hK10 _ _ _ hs
      · have hs := o_el c9 hs
        refine V.iload_n (pc := 41) C dX4_sizes_41 1 rfl ?_
        refine V.iconst (pc := 42) C (v := (1 : Int32)) dX4_sizes_42 (by decide) ?_
        refine V.iload_n (pc := 43) C dX4_sizes_43 2 rfl ?_
        refine V.ishl (pc := 44) C dX4_sizes_44 ?_
        refine V.ior (pc := 45) C dX4_sizes_45 ?_
        refine V.istore_n (pc := 46) C (i := 1) (lv2 := [(1, .int (x1 ||| ((1 : Int32) <<< (x2 &&& 31)))), (0, .ref 0), (2, .int x2)]) dX4_sizes_46 rfl (by decide) rfl ?_
        refine V.sub [1, 0, 2] rfl ?_
        exact tb_X4_sizes_47 C T hK10 _ _ _ hs
theorem tl_X4_sizes_10 {k : KX} (C : Cx k cX4_sizes RX4 3 rmX4_sizes) {r : Int32} {hf : Hp} (T : Rx k (some .int) (some (.int r)) hf) : ∀ (n : Nat) (x1 : Int32) (x2 : Int32) (h : Hp), X4_sizes_l10 n x1 x2 h = some (r, hf) → V k rmX4_sizes 3 10 [(0, .ref 0), (1, .int x1), (2, .int x2)] [] h := by
  intro n
  induction n with
  | zero => intro x1 x2 h hs; cases hs
  | succ n ih => intro x1 x2 h hs; exact tb_X4_sizes_10 C T ih x1 x2 h hs
set_option maxRecDepth 20000 in
theorem ct_X4_sizes (l : Launch) {h hf : Hp} {r : Int32} (hs : X4_sizes h = some (r, hf)) : Ct l yX4_sizes (Cond.code yX4_sizes cX4_sizes 3 (some .int) :: wsG) rmX4_sizes [.ref 0] h (some (.int r)) hf := by
  refine Ct.of (by decide +kernel) (fun _ => Nat.le_of_ble_eq_true rfl) (fun k C T => ?_)
  unfold X4_sizes at hs
  show V k rmX4_sizes 3 0 [(0, .ref 0)] [] h
  refine V.iconst (pc := 0) C (v := (0 : Int32)) dX4_sizes_0 (by decide) ?_
  refine V.istore_n (pc := 1) C (i := 1) (lv2 := [(1, .int (0 : Int32)), (0, .ref 0)]) dX4_sizes_1 rfl (by decide) rfl ?_
  refine V.aload_n (pc := 2) C dX4_sizes_2 1 rfl ?_
  refine V.getf (pc := 3) C (o := 0) (j := 1) (v := .ref 4) (by decide) rfl rfl inX4 (by decide) (by decide) wf_196 rfl dX4_sizes_3 ?_
  refine V.getN (pc := 6) C (o := 4) (j := 4) (v := .int (h.1 4 4)) (by decide) rfl rfl inX3 (by decide) (by decide) nw_12 rfl dX4_sizes_6 ?_
  refine V.istore_n (pc := 9) C (i := 2) (lv2 := [(2, .int (h.1 4 4)), (1, .int (0 : Int32)), (0, .ref 0)]) dX4_sizes_9 rfl (by decide) rfl ?_
  refine V.sub [2, 1, 0] rfl ?_
  exact tl_X4_sizes_10 C T fu _ _ _ hs
abbrev rmX4_two : Room := { frames := 4, cells := 0, slots := 0, locals := 86 }
set_option maxRecDepth 20000 in
theorem tb_X4_two_76 {k : KX} (C : Cx k cX4_two RX4 5 rmX4_two) {r : Int32} {hf : Hp} (T : Rx k (some .int) (some (.int r)) hf) {K21 : Int32 → Int32 → Int32 → Hp → Option (Int32 × Hp)} (hK21 : ∀ (x1 : Int32) (x2 : Int32) (x3 : Int32) (h : Hp), K21 x1 x2 x3 h = some (r, hf) → V k rmX4_two 5 21 [(0, .ref 0), (1, .int x1), (2, .int x2), (3, .int x3)] [] h) (x1 : Int32) (x2 : Int32) (x3 : Int32) (h : Hp) (hs : X4_two_b76 K21 x1 x2 x3 h = some (r, hf)) : V k rmX4_two 5 76 [(0, .ref 0), (1, .int x1), (2, .int x2), (3, .int x3)] [] h := by
  unfold X4_two_b76 at hs
  refine V.iinc (pc := 76) C (j := 3) (v := (x3 + (1 : Int32))) (lv2 := [(3, .int (x3 + (1 : Int32))), (0, .ref 0), (1, .int x1), (2, .int x2)]) dX4_two_76 rfl rfl (by decide) rfl ?_
  refine V.goto (pc := 79) C (tgt := 21) dX4_two_79 (by decide) ?_
  refine V.sub [1, 2, 3, 0] rfl ?_
  exact hK21 _ _ _ _ hs
set_option maxRecDepth 20000 in
theorem tb_X4_two_70 {k : KX} (C : Cx k cX4_two RX4 5 rmX4_two) {r : Int32} {hf : Hp} (T : Rx k (some .int) (some (.int r)) hf) {K21 : Int32 → Int32 → Int32 → Hp → Option (Int32 × Hp)} (hK21 : ∀ (x1 : Int32) (x2 : Int32) (x3 : Int32) (h : Hp), K21 x1 x2 x3 h = some (r, hf) → V k rmX4_two 5 21 [(0, .ref 0), (1, .int x1), (2, .int x2), (3, .int x3)] [] h) (x1 : Int32) (x2 : Int32) (x3 : Int32) (h : Hp) (hs : X4_two_b70 K21 x1 x2 x3 h = some (r, hf)) : V k rmX4_two 5 70 [(0, .ref 0), (1, .int x1), (2, .int x2), (3, .int x3)] [] h := by
  unfold X4_two_b70 at hs
  refine V.iload_n (pc := 70) C dX4_two_70 2 rfl ?_
  refine V.iconst (pc := 71) C (v := (1 : Int32)) dX4_two_71 (by decide) ?_
  refine V.iload_n (pc := 72) C dX4_two_72 3 rfl ?_
  refine V.ishl (pc := 73) C dX4_two_73 ?_
  refine V.ior (pc := 74) C dX4_two_74 ?_
  refine V.istore_n (pc := 75) C (i := 2) (lv2 := [(2, .int (x2 ||| ((1 : Int32) <<< (x3 &&& 31)))), (0, .ref 0), (1, .int x1), (3, .int x3)]) dX4_two_75 rfl (by decide) rfl ?_
  refine V.sub [1, 2, 0, 3] rfl ?_
  exact tb_X4_two_76 C T hK21 _ _ _ _ hs
set_option maxRecDepth 20000 in
theorem tb_X4_two_21 {k : KX} (C : Cx k cX4_two RX4 5 rmX4_two) {r : Int32} {hf : Hp} (T : Rx k (some .int) (some (.int r)) hf) {K21 : Int32 → Int32 → Int32 → Hp → Option (Int32 × Hp)} (hK21 : ∀ (x1 : Int32) (x2 : Int32) (x3 : Int32) (h : Hp), K21 x1 x2 x3 h = some (r, hf) → V k rmX4_two 5 21 [(0, .ref 0), (1, .int x1), (2, .int x2), (3, .int x3)] [] h) (x1 : Int32) (x2 : Int32) (x3 : Int32) (h : Hp) (hs : X4_two_b21 K21 x1 x2 x3 h = some (r, hf)) : V k rmX4_two 5 21 [(0, .ref 0), (1, .int x1), (2, .int x2), (3, .int x3)] [] h := by
  unfold X4_two_b21 at hs
  refine V.iload_n (pc := 21) C dX4_two_21 3 rfl ?_
  refine V.aload_n (pc := 22) C dX4_two_22 0 rfl ?_
  refine V.getf (pc := 23) C (o := 0) (j := 1) (v := .ref 4) (by decide) rfl rfl inX4 (by decide) (by decide) wf_196 rfl dX4_two_23 ?_
  refine V.getN (pc := 26) C (o := 4) (j := 3) (v := .int (h.1 4 3)) (by decide) rfl rfl inX3 (by decide) (by decide) nw_10 rfl dX4_two_26 ?_
  refine V.icmp_ge (pc := 29) C (tgt := 82) dX4_two_29 (by decide) (fun c4 => ?_) (fun c4 => ?_)
  · have hs := o_if c4 hs
    refine V.iload_n (pc := 82) C dX4_two_82 2 rfl ?_
    obtain ⟨v6, h5, ch5, hs⟩ := o_b2 hs
    refine V.callS (pc := 83) C (rm := rmJ6_bitCount_0f7a4) (y := yJ6_bitCount_0f7a4) (bytes := cJ6_bitCount_0f7a4) (maxL := 1) (ret := (some .int)) (n := 1) (As := [.int x2]) (rest := []) (rv := (some (.int v6))) (h1 := h5) (st0 := [.int x2]) (st2 := [.int v6]) (ct_J6_bitCount_0f7a4 (kL k) ch5) wf_484 wf_390 wf_57 wf_391 rfl rfl (by decide +kernel) ⟨by decide, by decide⟩ rfl (Nat.le_of_ble_eq_true rfl) dX4_two_83 rfl rfl ?_
    exact V.iret (pc := 86) C T hs dX4_two_86
  · have hs := o_el c4 hs
    refine V.aload_n (pc := 32) C dX4_two_32 0 rfl ?_
    refine V.getf (pc := 33) C (o := 0) (j := 1) (v := .ref 4) (by decide) rfl rfl inX4 (by decide) (by decide) wf_196 rfl dX4_two_33 ?_
    refine V.iload_n (pc := 36) C dX4_two_36 3 rfl ?_
    refine V.iconst (pc := 37) C (v := (2 : Int32)) dX4_two_37 (by decide) ?_
    obtain ⟨v8, h7, ch7, hs⟩ := o_b2 hs
    refine V.callV (pc := 38) C (o := 4) (rm := rmX3_of) (y := yX3_of) (bytes := cX3_of) (maxL := 3) (ret := (some .int)) (n := 2) (As := [.int x3, .int (2 : Int32)]) (rest := []) (rv := (some (.int v8))) (h1 := h7) (st0 := [.int (2 : Int32), .int x3, .ref 4]) (st2 := [.int v8]) (by decide) rfl rfl (ct_X3_of (kL k) ch7) wf_334 wf_335 wf_336 wf_51 wf_337 rfl rfl (by decide +kernel) ⟨by decide, by decide⟩ rfl (Nat.le_of_ble_eq_true rfl) dX4_two_38 rfl rfl ?_
    refine V.istore (pc := 41) C (i := 4) (lv2 := [(4, .int v8), (0, .ref 0), (1, .int x1), (2, .int x2), (3, .int x3)]) dX4_two_41 (by decide) rfl ?_
    refine V.aload_n (pc := 43) C dX4_two_43 1 rfl ?_
    refine V.getf (pc := 44) C (o := 0) (j := 1) (v := .ref 4) (by decide) rfl rfl inX4 (by decide) (by decide) wf_196 rfl dX4_two_44 ?_
    refine V.iload_n (pc := 47) C dX4_two_47 4 rfl ?_
    obtain ⟨v10, h9, ch9, hs⟩ := o_b2 hs
    refine V.callV (pc := 48) C (o := 4) (rm := rmX3_needsAny) (y := yX3_needsAny) (bytes := cX3_needsAny) (maxL := 2) (ret := (some .boolean)) (n := 1) (As := [.int x3]) (rest := []) (rv := (some (.int v10))) (h1 := h9) (st0 := [.int x3, .ref 4]) (st2 := [.int v10]) (by decide) rfl rfl (ct_X3_needsAny (kL k) ch9) wf_427 wf_428 wf_429 wf_51 wf_430 rfl rfl (by decide +kernel) ⟨by decide, by decide⟩ rfl (Nat.le_of_ble_eq_true rfl) dX4_two_48 rfl rfl ?_
    refine V.if_eq (pc := 51) C (tgt := 76) dX4_two_51 (by decide) (fun c11 => ?_) (fun c11 => ?_)
    · have hs := o_if c11 hs
      refine V.sub [1, 2, 3, 4] rfl ?_
      exact tb_X4_two_76 C T hK21 _ _ _ _ hs
    · have hs := o_el c11 hs
      refine V.iload (pc := 54) C dX4_two_54 0 rfl ?_
      refine V.iload_n (pc := 56) C dX4_two_56 2 rfl ?_
      refine V.icmp_lt (pc := 57) C (tgt := 70) dX4_two_57 (by decide) (fun c12 => ?_) (fun c12 => ?_)
      · have hs := o_if c12 hs
        refine V.sub [1, 2, 3, 4] rfl ?_
        exact tb_X4_two_70 C T hK21 _ _ _ _ hs
      · have hs := o_el c12 hs
        refine V.iload_n (pc := 60) C dX4_two_60 3 rfl ?_
        refine V.iload (pc := 61) C dX4_two_61 0 rfl ?_
        obtain ⟨v14, h13, ch13, hs⟩ := o_b2 hs
        refine V.callS (pc := 63) C (rm := rmX4_bit) (y := yX4_bit) (bytes := cX4_bit) (maxL := 2) (ret := (some .int)) (n := 2) (As := [.int x2, .int v8]) (rest := []) (rv := (some (.int v14))) (h1 := h13) (st0 := [.int v8, .int x2]) (st2 := [.int v14]) (ct_X4_bit (kL k) ch13) wf_339 wf_340 wf_49 wf_341 rfl rfl (by decide +kernel) ⟨by decide, by decide⟩ rfl (Nat.le_of_ble_eq_true rfl) dX4_two_63 rfl rfl ?_
        refine V.iconst (pc := 66) C (v := (1 : Int32)) dX4_two_66 (by decide) ?_
        refine V.icmp_ne (pc := 67) C (tgt := 76) dX4_two_67 (by decide) (fun c15 => ?_) (fun c15 => ?_)
        · have hs := o_el c15 hs
          refine V.sub [1, 2, 3, 4] rfl ?_
          exact tb_X4_two_76 C T hK21 _ _ _ _ hs
        · have hs := o_if c15 hs
          refine V.sub [1, 2, 3, 4] rfl ?_
          exact tb_X4_two_70 C T hK21 _ _ _ _ hs
theorem tl_X4_two_21 {k : KX} (C : Cx k cX4_two RX4 5 rmX4_two) {r : Int32} {hf : Hp} (T : Rx k (some .int) (some (.int r)) hf) : ∀ (n : Nat) (x1 : Int32) (x2 : Int32) (x3 : Int32) (h : Hp), X4_two_l21 n x1 x2 x3 h = some (r, hf) → V k rmX4_two 5 21 [(0, .ref 0), (1, .int x1), (2, .int x2), (3, .int x3)] [] h := by
  intro n
  induction n with
  | zero => intro x1 x2 x3 h hs; cases hs
  | succ n ih => intro x1 x2 x3 h hs; exact tb_X4_two_21 C T ih x1 x2 x3 h hs
set_option maxRecDepth 20000 in
theorem ct_X4_two (l : Launch) {x1 : Int32} {h hf : Hp} {r : Int32} (hs : X4_two x1 h = some (r, hf)) : Ct l yX4_two (Cond.code yX4_two cX4_two 5 (some .int) :: wsG) rmX4_two [.ref 0, .int x1] h (some (.int r)) hf := by
  refine Ct.of (by decide +kernel) (fun _ => Nat.le_of_ble_eq_true rfl) (fun k C T => ?_)
  unfold X4_two at hs
  show V k rmX4_two 5 0 [(0, .ref 0), (1, .int x1)] [] h
  refine V.iload_n (pc := 0) C dX4_two_0 1 rfl ?_
  refine V.iconst (pc := 1) C (v := (0 : Int32)) dX4_two_1 (by decide) ?_
  refine V.aload_n (pc := 2) C dX4_two_2 0 rfl ?_
  refine V.getf (pc := 3) C (o := 0) (j := 1) (v := .ref 4) (by decide) rfl rfl inX4 (by decide) (by decide) wf_196 rfl dX4_two_3 ?_
  refine V.getN (pc := 6) C (o := 4) (j := 3) (v := .int (h.1 4 3)) (by decide) rfl rfl inX3 (by decide) (by decide) nw_10 rfl dX4_two_6 ?_
  obtain ⟨v2, h1, ch1, hs⟩ := o_b2 hs
  refine V.callS (pc := 9) C (rm := rmX4_within) (y := yX4_within) (bytes := cX4_within) (maxL := 3) (ret := (some .boolean)) (n := 3) (As := [.int x1, .int (0 : Int32), .int (h.1 4 3)]) (rest := []) (rv := (some (.int v2))) (h1 := h1) (st0 := [.int (h.1 4 3), .int (0 : Int32), .int x1]) (st2 := [.int v2]) (ct_X4_within (kL k) ch1) wf_236 wf_237 wf_49 wf_238 rfl rfl (by decide +kernel) ⟨by decide, by decide⟩ rfl (Nat.le_of_ble_eq_true rfl) dX4_two_9 rfl rfl ?_
  refine V.if_ne (pc := 12) C (tgt := 17) dX4_two_12 (by decide) (fun c3 => ?_) (fun c3 => ?_)
  · have hs := o_el c3 hs
    refine V.iconst (pc := 17) C (v := (0 : Int32)) dX4_two_17 (by decide) ?_
    refine V.istore_n (pc := 18) C (i := 2) (lv2 := [(2, .int (0 : Int32)), (0, .ref 0), (1, .int x1)]) dX4_two_18 rfl (by decide) rfl ?_
    refine V.iload_n (pc := 19) C dX4_two_19 2 rfl ?_
    refine V.istore_n (pc := 20) C (i := 3) (lv2 := [(3, .int x1), (2, .int (0 : Int32)), (0, .ref 0), (1, .int x1)]) dX4_two_20 rfl (by decide) rfl ?_
    refine V.sub [2, 3, 1, 0] rfl ?_
    exact tl_X4_two_21 C T fu _ _ _ _ hs
  · have hs := o_if c3 hs
    refine V.iconst (pc := 15) C (v := (-1 : Int32)) dX4_two_15 (by decide) ?_
    exact V.iret (pc := 16) C T hs dX4_two_16
abbrev rmX4_asPiece : Room := { frames := 3, cells := 0, slots := 0, locals := 65 }
set_option maxRecDepth 20000 in
theorem ct_X4_asPiece (l : Launch) {x1 : Int32} {h hf : Hp} {r : Int32} (hs : X4_asPiece x1 h = some (r, hf)) : Ct l yX4_asPiece (Cond.code yX4_asPiece cX4_asPiece 2 (some .int) :: wsG) rmX4_asPiece [.ref 0, .int x1] h (some (.int r)) hf := by
  refine Ct.of (by decide +kernel) (fun _ => Nat.le_of_ble_eq_true rfl) (fun k C T => ?_)
  unfold X4_asPiece at hs
  show V k rmX4_asPiece 2 0 [(0, .ref 0), (1, .int x1)] [] h
  refine V.aload_n (pc := 0) C dX4_asPiece_0 0 rfl ?_
  refine V.dup (pc := 1) C dX4_asPiece_1 rfl ?_
  refine V.getf (pc := 2) C (o := 0) (j := 11) (v := .long (h.2 0 11)) (by decide) rfl rfl inX4 (by decide) (by decide) wf_206 rfl dX4_asPiece_2 ?_
  refine V.lconst (pc := 5) C (v := (1 : Int64)) dX4_asPiece_5 (by decide) ?_
  refine V.ladd (pc := 6) C dX4_asPiece_6 ?_
  refine V.putL (pc := 7) C (o := 0) (j := 11) (v := ((h.2 0 11) + (1 : Int64))) (by decide) rfl rfl inX4 (by decide) (by decide) wf_206 tyX4 tyX4_ok nmX4 rfl rfl rfl rfl dX4_asPiece_7 ?_
  refine V.aload_n (pc := 10) C dX4_asPiece_10 0 rfl ?_
  refine V.getf (pc := 11) C (o := 0) (j := 1) (v := .ref 4) (by decide) rfl rfl inX4 (by decide) (by decide) wf_196 rfl dX4_asPiece_11 ?_
  refine V.iload_n (pc := 14) C dX4_asPiece_14 1 rfl ?_
  refine V.iconst (pc := 15) C (v := (0 : Int32)) dX4_asPiece_15 (by decide) ?_
  obtain ⟨v2, h1, ch1, hs⟩ := o_b2 hs
  refine V.callV (pc := 16) C (o := 4) (rm := rmX3_of) (y := yX3_of) (bytes := cX3_of) (maxL := 3) (ret := (some .int)) (n := 2) (As := [.int x1, .int (0 : Int32)]) (rest := []) (rv := (some (.int v2))) (h1 := h1) (st0 := [.int (0 : Int32), .int x1, .ref 4]) (st2 := [.int v2]) (by decide) rfl rfl (ct_X3_of (kL k) ch1) wf_334 wf_335 wf_336 wf_51 wf_337 rfl rfl (by decide +kernel) ⟨by decide, by decide⟩ rfl (Nat.le_of_ble_eq_true rfl) dX4_asPiece_16 rfl rfl ?_
  exact V.iret (pc := 19) C T hs dX4_asPiece_19
abbrev rmX4_asShort : Room := { frames := 4, cells := 0, slots := 0, locals := 86 }
set_option maxRecDepth 20000 in
theorem ct_X4_asShort (l : Launch) {x1 : Int32} {h hf : Hp} {r : Int32} (hs : X4_asShort x1 h = some (r, hf)) : Ct l yX4_asShort (Cond.code yX4_asShort cX4_asShort 2 (some .int) :: wsG) rmX4_asShort [.ref 0, .int x1] h (some (.int r)) hf := by
  refine Ct.of (by decide +kernel) (fun _ => Nat.le_of_ble_eq_true rfl) (fun k C T => ?_)
  unfold X4_asShort at hs
  show V k rmX4_asShort 2 0 [(0, .ref 0), (1, .int x1)] [] h
  refine V.aload_n (pc := 0) C dX4_asShort_0 0 rfl ?_
  refine V.dup (pc := 1) C dX4_asShort_1 rfl ?_
  refine V.getf (pc := 2) C (o := 0) (j := 11) (v := .long (h.2 0 11)) (by decide) rfl rfl inX4 (by decide) (by decide) wf_206 rfl dX4_asShort_2 ?_
  refine V.ldc2 (pc := 5) C wf_554 dX4_asShort_5 ?_
  refine V.ladd (pc := 8) C dX4_asShort_8 ?_
  refine V.putL (pc := 9) C (o := 0) (j := 11) (v := ((h.2 0 11) + (10 : Int64))) (by decide) rfl rfl inX4 (by decide) (by decide) wf_206 tyX4 tyX4_ok nmX4 rfl rfl rfl rfl dX4_asShort_9 ?_
  refine V.aload_n (pc := 12) C dX4_asShort_12 0 rfl ?_
  refine V.iload_n (pc := 13) C dX4_asShort_13 1 rfl ?_
  obtain ⟨v2, h1, ch1, hs⟩ := o_b2 hs
  refine V.callV (pc := 14) C (o := 0) (rm := rmX4_asPiece) (y := yX4_asPiece) (bytes := cX4_asPiece) (maxL := 2) (ret := (some .int)) (n := 1) (As := [.int x1]) (rest := []) (rv := (some (.int v2))) (h1 := h1) (st0 := [.int x1, .ref 0]) (st2 := [.int v2]) (by decide) rfl rfl (ct_X4_asPiece (kL k) ch1) wf_546 wf_548 wf_15 wf_49 wf_549 rfl rfl (by decide +kernel) ⟨by decide, by decide⟩ rfl (Nat.le_of_ble_eq_true rfl) dX4_asShort_14 rfl rfl ?_
  refine V.aload_n (pc := 17) C dX4_asShort_17 0 rfl ?_
  refine V.getf (pc := 18) C (o := 0) (j := 1) (v := .ref 4) (by decide) rfl rfl inX4 (by decide) (by decide) wf_196 rfl dX4_asShort_18 ?_
  refine V.iload_n (pc := 21) C dX4_asShort_21 1 rfl ?_
  refine V.iconst (pc := 22) C (v := (1 : Int32)) dX4_asShort_22 (by decide) ?_
  obtain ⟨v4, h3, ch3, hs⟩ := o_b2 hs
  refine V.callV (pc := 23) C (o := 4) (rm := rmX3_of) (y := yX3_of) (bytes := cX3_of) (maxL := 3) (ret := (some .int)) (n := 2) (As := [.int x1, .int (1 : Int32)]) (rest := [.int v2]) (rv := (some (.int v4))) (h1 := h3) (st0 := [.int (1 : Int32), .int x1, .ref 4, .int v2]) (st2 := [.int v4, .int v2]) (by decide) rfl rfl (ct_X3_of (kL k) ch3) wf_334 wf_335 wf_336 wf_51 wf_337 rfl rfl (by decide +kernel) ⟨by decide, by decide⟩ rfl (Nat.le_of_ble_eq_true rfl) dX4_asShort_23 rfl rfl ?_
  refine V.iadd (pc := 26) C dX4_asShort_26 ?_
  exact V.iret (pc := 27) C T hs dX4_asShort_27
abbrev rmX4_asLong : Room := { frames := 4, cells := 0, slots := 0, locals := 86 }
set_option maxRecDepth 20000 in
theorem ct_X4_asLong (l : Launch) {x1 : Int32} {h hf : Hp} {r : Int32} (hs : X4_asLong x1 h = some (r, hf)) : Ct l yX4_asLong (Cond.code yX4_asLong cX4_asLong 2 (some .int) :: wsG) rmX4_asLong [.ref 0, .int x1] h (some (.int r)) hf := by
  refine Ct.of (by decide +kernel) (fun _ => Nat.le_of_ble_eq_true rfl) (fun k C T => ?_)
  unfold X4_asLong at hs
  show V k rmX4_asLong 2 0 [(0, .ref 0), (1, .int x1)] [] h
  refine V.aload_n (pc := 0) C dX4_asLong_0 0 rfl ?_
  refine V.dup (pc := 1) C dX4_asLong_1 rfl ?_
  refine V.getf (pc := 2) C (o := 0) (j := 11) (v := .long (h.2 0 11)) (by decide) rfl rfl inX4 (by decide) (by decide) wf_206 rfl dX4_asLong_2 ?_
  refine V.ldc2 (pc := 5) C wf_559 dX4_asLong_5 ?_
  refine V.ladd (pc := 8) C dX4_asLong_8 ?_
  refine V.putL (pc := 9) C (o := 0) (j := 11) (v := ((h.2 0 11) + (100 : Int64))) (by decide) rfl rfl inX4 (by decide) (by decide) wf_206 tyX4 tyX4_ok nmX4 rfl rfl rfl rfl dX4_asLong_9 ?_
  refine V.aload_n (pc := 12) C dX4_asLong_12 0 rfl ?_
  refine V.iload_n (pc := 13) C dX4_asLong_13 1 rfl ?_
  obtain ⟨v2, h1, ch1, hs⟩ := o_b2 hs
  refine V.callV (pc := 14) C (o := 0) (rm := rmX4_asPiece) (y := yX4_asPiece) (bytes := cX4_asPiece) (maxL := 2) (ret := (some .int)) (n := 1) (As := [.int x1]) (rest := []) (rv := (some (.int v2))) (h1 := h1) (st0 := [.int x1, .ref 0]) (st2 := [.int v2]) (by decide) rfl rfl (ct_X4_asPiece (kL k) ch1) wf_546 wf_548 wf_15 wf_49 wf_549 rfl rfl (by decide +kernel) ⟨by decide, by decide⟩ rfl (Nat.le_of_ble_eq_true rfl) dX4_asLong_14 rfl rfl ?_
  refine V.aload_n (pc := 17) C dX4_asLong_17 0 rfl ?_
  refine V.getf (pc := 18) C (o := 0) (j := 1) (v := .ref 4) (by decide) rfl rfl inX4 (by decide) (by decide) wf_196 rfl dX4_asLong_18 ?_
  refine V.iload_n (pc := 21) C dX4_asLong_21 1 rfl ?_
  refine V.iconst (pc := 22) C (v := (4 : Int32)) dX4_asLong_22 (by decide) ?_
  obtain ⟨v4, h3, ch3, hs⟩ := o_b2 hs
  refine V.callV (pc := 23) C (o := 4) (rm := rmX3_of) (y := yX3_of) (bytes := cX3_of) (maxL := 3) (ret := (some .int)) (n := 2) (As := [.int x1, .int (4 : Int32)]) (rest := [.int v2]) (rv := (some (.int v4))) (h1 := h3) (st0 := [.int (4 : Int32), .int x1, .ref 4, .int v2]) (st2 := [.int v4, .int v2]) (by decide) rfl rfl (ct_X3_of (kL k) ch3) wf_334 wf_335 wf_336 wf_51 wf_337 rfl rfl (by decide +kernel) ⟨by decide, by decide⟩ rfl (Nat.le_of_ble_eq_true rfl) dX4_asLong_23 rfl rfl ?_
  refine V.isub (pc := 26) C dX4_asLong_26 ?_
  exact V.iret (pc := 27) C T hs dX4_asLong_27
abbrev rmX4_asSign : Room := { frames := 5, cells := 0, slots := 0, locals := 107 }
set_option maxRecDepth 20000 in
theorem ct_X4_asSign (l : Launch) {x1 : Int32} {h hf : Hp} {r : Int32} (hs : X4_asSign x1 h = some (r, hf)) : Ct l yX4_asSign (Cond.code yX4_asSign cX4_asSign 2 (some .int) :: wsG) rmX4_asSign [.ref 0, .int x1] h (some (.int r)) hf := by
  refine Ct.of (by decide +kernel) (fun _ => Nat.le_of_ble_eq_true rfl) (fun k C T => ?_)
  unfold X4_asSign at hs
  show V k rmX4_asSign 2 0 [(0, .ref 0), (1, .int x1)] [] h
  refine V.aload_n (pc := 0) C dX4_asSign_0 0 rfl ?_
  refine V.dup (pc := 1) C dX4_asSign_1 rfl ?_
  refine V.getf (pc := 2) C (o := 0) (j := 11) (v := .long (h.2 0 11)) (by decide) rfl rfl inX4 (by decide) (by decide) wf_206 rfl dX4_asSign_2 ?_
  refine V.ldc2 (pc := 5) C wf_564 dX4_asSign_5 ?_
  refine V.ladd (pc := 8) C dX4_asSign_8 ?_
  refine V.putL (pc := 9) C (o := 0) (j := 11) (v := ((h.2 0 11) + (1000 : Int64))) (by decide) rfl rfl inX4 (by decide) (by decide) wf_206 tyX4 tyX4_ok nmX4 rfl rfl rfl rfl dX4_asSign_9 ?_
  refine V.aload_n (pc := 12) C dX4_asSign_12 0 rfl ?_
  refine V.iload_n (pc := 13) C dX4_asSign_13 1 rfl ?_
  obtain ⟨v2, h1, ch1, hs⟩ := o_b2 hs
  refine V.callV (pc := 14) C (o := 0) (rm := rmX4_asShort) (y := yX4_asShort) (bytes := cX4_asShort) (maxL := 2) (ret := (some .int)) (n := 1) (As := [.int x1]) (rest := []) (rv := (some (.int v2))) (h1 := h1) (st0 := [.int x1, .ref 0]) (st2 := [.int v2]) (by decide) rfl rfl (ct_X4_asShort (kL k) ch1) wf_550 wf_552 wf_16 wf_49 wf_553 rfl rfl (by decide +kernel) ⟨by decide, by decide⟩ rfl (Nat.le_of_ble_eq_true rfl) dX4_asSign_14 rfl rfl ?_
  refine V.iconst (pc := 17) C (v := (2 : Int32)) dX4_asSign_17 (by decide) ?_
  refine V.imul (pc := 18) C dX4_asSign_18 ?_
  exact V.iret (pc := 19) C T hs dX4_asSign_19
abbrev rmX4_asMargin : Room := { frames := 5, cells := 0, slots := 0, locals := 107 }
set_option maxRecDepth 20000 in
theorem ct_X4_asMargin (l : Launch) {x1 : Int32} {h hf : Hp} {r : Int32} (hs : X4_asMargin x1 h = some (r, hf)) : Ct l yX4_asMargin (Cond.code yX4_asMargin cX4_asMargin 2 (some .int) :: wsG) rmX4_asMargin [.ref 0, .int x1] h (some (.int r)) hf := by
  refine Ct.of (by decide +kernel) (fun _ => Nat.le_of_ble_eq_true rfl) (fun k C T => ?_)
  unfold X4_asMargin at hs
  show V k rmX4_asMargin 2 0 [(0, .ref 0), (1, .int x1)] [] h
  refine V.aload_n (pc := 0) C dX4_asMargin_0 0 rfl ?_
  refine V.dup (pc := 1) C dX4_asMargin_1 rfl ?_
  refine V.getf (pc := 2) C (o := 0) (j := 11) (v := .long (h.2 0 11)) (by decide) rfl rfl inX4 (by decide) (by decide) wf_206 rfl dX4_asMargin_2 ?_
  refine V.ldc2 (pc := 5) C wf_569 dX4_asMargin_5 ?_
  refine V.ladd (pc := 8) C dX4_asMargin_8 ?_
  refine V.putL (pc := 9) C (o := 0) (j := 11) (v := ((h.2 0 11) + (10000 : Int64))) (by decide) rfl rfl inX4 (by decide) (by decide) wf_206 tyX4 tyX4_ok nmX4 rfl rfl rfl rfl dX4_asMargin_9 ?_
  refine V.aload_n (pc := 12) C dX4_asMargin_12 0 rfl ?_
  refine V.iload_n (pc := 13) C dX4_asMargin_13 1 rfl ?_
  obtain ⟨v2, h1, ch1, hs⟩ := o_b2 hs
  refine V.callV (pc := 14) C (o := 0) (rm := rmX4_asLong) (y := yX4_asLong) (bytes := cX4_asLong) (maxL := 2) (ret := (some .int)) (n := 1) (As := [.int x1]) (rest := []) (rv := (some (.int v2))) (h1 := h1) (st0 := [.int x1, .ref 0]) (st2 := [.int v2]) (by decide) rfl rfl (ct_X4_asLong (kL k) ch1) wf_555 wf_557 wf_17 wf_49 wf_558 rfl rfl (by decide +kernel) ⟨by decide, by decide⟩ rfl (Nat.le_of_ble_eq_true rfl) dX4_asMargin_14 rfl rfl ?_
  refine V.aload_n (pc := 17) C dX4_asMargin_17 0 rfl ?_
  refine V.getf (pc := 18) C (o := 0) (j := 4) (v := .ref 12) (by decide) rfl rfl inX4 (by decide) (by decide) wf_199 rfl dX4_asMargin_18 ?_
  refine V.getN (pc := 21) C (o := 12) (j := 2) (v := .int (h1.1 12 2)) (by decide) rfl rfl inX1 (by decide) (by decide) nw_16 rfl dX4_asMargin_21 ?_
  refine V.iadd (pc := 24) C dX4_asMargin_24 ?_
  exact V.iret (pc := 25) C T hs dX4_asMargin_25
abbrev rmX4_asKiss : Room := { frames := 4, cells := 0, slots := 0, locals := 86 }
set_option maxRecDepth 20000 in
theorem ct_X4_asKiss (l : Launch) {x1 : Int32} {h hf : Hp} {r : Int32} (hs : X4_asKiss x1 h = some (r, hf)) : Ct l yX4_asKiss (Cond.code yX4_asKiss cX4_asKiss 2 (some .int) :: wsG) rmX4_asKiss [.ref 0, .int x1] h (some (.int r)) hf := by
  refine Ct.of (by decide +kernel) (fun _ => Nat.le_of_ble_eq_true rfl) (fun k C T => ?_)
  unfold X4_asKiss at hs
  show V k rmX4_asKiss 2 0 [(0, .ref 0), (1, .int x1)] [] h
  refine V.aload_n (pc := 0) C dX4_asKiss_0 0 rfl ?_
  refine V.dup (pc := 1) C dX4_asKiss_1 rfl ?_
  refine V.getf (pc := 2) C (o := 0) (j := 11) (v := .long (h.2 0 11)) (by decide) rfl rfl inX4 (by decide) (by decide) wf_206 rfl dX4_asKiss_2 ?_
  refine V.ldc2 (pc := 5) C wf_574 dX4_asKiss_5 ?_
  refine V.ladd (pc := 8) C dX4_asKiss_8 ?_
  refine V.putL (pc := 9) C (o := 0) (j := 11) (v := ((h.2 0 11) + (100000 : Int64))) (by decide) rfl rfl inX4 (by decide) (by decide) wf_206 tyX4 tyX4_ok nmX4 rfl rfl rfl rfl dX4_asKiss_9 ?_
  refine V.aload_n (pc := 12) C dX4_asKiss_12 0 rfl ?_
  refine V.iload_n (pc := 13) C dX4_asKiss_13 1 rfl ?_
  obtain ⟨v2, h1, ch1, hs⟩ := o_b2 hs
  refine V.callV (pc := 14) C (o := 0) (rm := rmX4_asPiece) (y := yX4_asPiece) (bytes := cX4_asPiece) (maxL := 2) (ret := (some .int)) (n := 1) (As := [.int x1]) (rest := []) (rv := (some (.int v2))) (h1 := h1) (st0 := [.int x1, .ref 0]) (st2 := [.int v2]) (by decide) rfl rfl (ct_X4_asPiece (kL k) ch1) wf_546 wf_548 wf_15 wf_49 wf_549 rfl rfl (by decide +kernel) ⟨by decide, by decide⟩ rfl (Nat.le_of_ble_eq_true rfl) dX4_asKiss_14 rfl rfl ?_
  refine V.aload_n (pc := 17) C dX4_asKiss_17 0 rfl ?_
  refine V.getf (pc := 18) C (o := 0) (j := 4) (v := .ref 12) (by decide) rfl rfl inX4 (by decide) (by decide) wf_199 rfl dX4_asKiss_18 ?_
  refine V.getN (pc := 21) C (o := 12) (j := 4) (v := .int (h1.1 12 4)) (by decide) rfl rfl inX1 (by decide) (by decide) nw_18 rfl dX4_asKiss_21 ?_
  refine V.iadd (pc := 24) C dX4_asKiss_24 ?_
  exact V.iret (pc := 25) C T hs dX4_asKiss_25
abbrev rmX4_mark : Room := { frames := 6, cells := 0, slots := 0, locals := 128 }
set_option maxRecDepth 20000 in
theorem ct_X4_mark (l : Launch) {x1 : Int32} {x2 : Int32} {h hf : Hp} {r : Int32} (hs : X4_mark x1 x2 h = some (r, hf)) : Ct l yX4_mark (Cond.code yX4_mark cX4_mark 3 (some .int) :: wsG) rmX4_mark [.ref 0, .int x1, .int x2] h (some (.int r)) hf := by
  refine Ct.of (by decide +kernel) (fun _ => Nat.le_of_ble_eq_true rfl) (fun k C T => ?_)
  unfold X4_mark at hs
  show V k rmX4_mark 3 0 [(0, .ref 0), (1, .int x1), (2, .int x2)] [] h
  refine V.aload_n (pc := 0) C dX4_mark_0 0 rfl ?_
  refine V.getf (pc := 1) C (o := 0) (j := 1) (v := .ref 4) (by decide) rfl rfl inX4 (by decide) (by decide) wf_196 rfl dX4_mark_1 ?_
  refine V.iload_n (pc := 4) C dX4_mark_4 2 rfl ?_
  obtain ⟨v2, h1, ch1, hs⟩ := o_b2 hs
  refine V.callV (pc := 5) C (o := 4) (rm := rmX3_hasPiece) (y := yX3_hasPiece) (bytes := cX3_hasPiece) (maxL := 2) (ret := (some .boolean)) (n := 1) (As := [.int x2]) (rest := []) (rv := (some (.int v2))) (h1 := h1) (st0 := [.int x2, .ref 4]) (st2 := [.int v2]) (by decide) rfl rfl (ct_X3_hasPiece (kL k) ch1) wf_333 wf_288 wf_289 wf_51 wf_290 rfl rfl (by decide +kernel) ⟨by decide, by decide⟩ rfl (Nat.le_of_ble_eq_true rfl) dX4_mark_5 rfl rfl ?_
  refine V.if_ne (pc := 8) C (tgt := 14) dX4_mark_8 (by decide) (fun c3 => ?_) (fun c3 => ?_)
  · have hs := o_el c3 hs
    refine V.iload_n (pc := 14) C dX4_mark_14 1 rfl ?_
    by_cases c16_0 : x1 = (0 : Int32)
    · have hs := o_if c16_0 hs
      refine V.tin (pc := 15) C (tgt := 52) (off := 37) dX4_mark_15 c16_0 (by decide) (by decide) (by decide) (by decide) ?_
      refine V.aload_n (pc := 52) C dX4_mark_52 0 rfl ?_
      refine V.iload_n (pc := 53) C dX4_mark_53 2 rfl ?_
      obtain ⟨v5, h4, ch4, hs⟩ := o_b2 hs
      refine V.callV (pc := 54) C (o := 0) (rm := rmX4_asPiece) (y := yX4_asPiece) (bytes := cX4_asPiece) (maxL := 2) (ret := (some .int)) (n := 1) (As := [.int x2]) (rest := []) (rv := (some (.int v5))) (h1 := h4) (st0 := [.int x2, .ref 0]) (st2 := [.int v5]) (by decide) rfl rfl (ct_X4_asPiece (kL k) ch4) wf_546 wf_548 wf_15 wf_49 wf_549 rfl rfl (by decide +kernel) ⟨by decide, by decide⟩ rfl (Nat.le_of_ble_eq_true rfl) dX4_mark_54 rfl rfl ?_
      exact V.iret (pc := 57) C T hs dX4_mark_57
    have hs := o_el c16_0 hs
    by_cases c16_1 : x1 = (1 : Int32)
    · have hs := o_if c16_1 hs
      refine V.tin (pc := 15) C (tgt := 58) (off := 43) dX4_mark_15 c16_1 (by decide) (by decide) (by decide) (by decide) ?_
      refine V.aload_n (pc := 58) C dX4_mark_58 0 rfl ?_
      refine V.iload_n (pc := 59) C dX4_mark_59 2 rfl ?_
      obtain ⟨v7, h6, ch6, hs⟩ := o_b2 hs
      refine V.callV (pc := 60) C (o := 0) (rm := rmX4_asShort) (y := yX4_asShort) (bytes := cX4_asShort) (maxL := 2) (ret := (some .int)) (n := 1) (As := [.int x2]) (rest := []) (rv := (some (.int v7))) (h1 := h6) (st0 := [.int x2, .ref 0]) (st2 := [.int v7]) (by decide) rfl rfl (ct_X4_asShort (kL k) ch6) wf_550 wf_552 wf_16 wf_49 wf_553 rfl rfl (by decide +kernel) ⟨by decide, by decide⟩ rfl (Nat.le_of_ble_eq_true rfl) dX4_mark_60 rfl rfl ?_
      exact V.iret (pc := 63) C T hs dX4_mark_63
    have hs := o_el c16_1 hs
    by_cases c16_2 : x1 = (2 : Int32)
    · have hs := o_if c16_2 hs
      refine V.tin (pc := 15) C (tgt := 64) (off := 49) dX4_mark_15 c16_2 (by decide) (by decide) (by decide) (by decide) ?_
      refine V.aload_n (pc := 64) C dX4_mark_64 0 rfl ?_
      refine V.iload_n (pc := 65) C dX4_mark_65 2 rfl ?_
      obtain ⟨v9, h8, ch8, hs⟩ := o_b2 hs
      refine V.callV (pc := 66) C (o := 0) (rm := rmX4_asLong) (y := yX4_asLong) (bytes := cX4_asLong) (maxL := 2) (ret := (some .int)) (n := 1) (As := [.int x2]) (rest := []) (rv := (some (.int v9))) (h1 := h8) (st0 := [.int x2, .ref 0]) (st2 := [.int v9]) (by decide) rfl rfl (ct_X4_asLong (kL k) ch8) wf_555 wf_557 wf_17 wf_49 wf_558 rfl rfl (by decide +kernel) ⟨by decide, by decide⟩ rfl (Nat.le_of_ble_eq_true rfl) dX4_mark_66 rfl rfl ?_
      exact V.iret (pc := 69) C T hs dX4_mark_69
    have hs := o_el c16_2 hs
    by_cases c16_3 : x1 = (3 : Int32)
    · have hs := o_if c16_3 hs
      refine V.tin (pc := 15) C (tgt := 70) (off := 55) dX4_mark_15 c16_3 (by decide) (by decide) (by decide) (by decide) ?_
      refine V.aload_n (pc := 70) C dX4_mark_70 0 rfl ?_
      refine V.iload_n (pc := 71) C dX4_mark_71 2 rfl ?_
      obtain ⟨v11, h10, ch10, hs⟩ := o_b2 hs
      refine V.callV (pc := 72) C (o := 0) (rm := rmX4_asSign) (y := yX4_asSign) (bytes := cX4_asSign) (maxL := 2) (ret := (some .int)) (n := 1) (As := [.int x2]) (rest := []) (rv := (some (.int v11))) (h1 := h10) (st0 := [.int x2, .ref 0]) (st2 := [.int v11]) (by decide) rfl rfl (ct_X4_asSign (kL k) ch10) wf_560 wf_562 wf_18 wf_49 wf_563 rfl rfl (by decide +kernel) ⟨by decide, by decide⟩ rfl (Nat.le_of_ble_eq_true rfl) dX4_mark_72 rfl rfl ?_
      exact V.iret (pc := 75) C T hs dX4_mark_75
    have hs := o_el c16_3 hs
    by_cases c16_4 : x1 = (4 : Int32)
    · have hs := o_if c16_4 hs
      refine V.tin (pc := 15) C (tgt := 76) (off := 61) dX4_mark_15 c16_4 (by decide) (by decide) (by decide) (by decide) ?_
      refine V.aload_n (pc := 76) C dX4_mark_76 0 rfl ?_
      refine V.iload_n (pc := 77) C dX4_mark_77 2 rfl ?_
      obtain ⟨v13, h12, ch12, hs⟩ := o_b2 hs
      refine V.callV (pc := 78) C (o := 0) (rm := rmX4_asMargin) (y := yX4_asMargin) (bytes := cX4_asMargin) (maxL := 2) (ret := (some .int)) (n := 1) (As := [.int x2]) (rest := []) (rv := (some (.int v13))) (h1 := h12) (st0 := [.int x2, .ref 0]) (st2 := [.int v13]) (by decide) rfl rfl (ct_X4_asMargin (kL k) ch12) wf_565 wf_567 wf_19 wf_49 wf_568 rfl rfl (by decide +kernel) ⟨by decide, by decide⟩ rfl (Nat.le_of_ble_eq_true rfl) dX4_mark_78 rfl rfl ?_
      exact V.iret (pc := 81) C T hs dX4_mark_81
    have hs := o_el c16_4 hs
    by_cases c16_5 : x1 = (5 : Int32)
    · have hs := o_if c16_5 hs
      refine V.tin (pc := 15) C (tgt := 82) (off := 67) dX4_mark_15 c16_5 (by decide) (by decide) (by decide) (by decide) ?_
      refine V.aload_n (pc := 82) C dX4_mark_82 0 rfl ?_
      refine V.iload_n (pc := 83) C dX4_mark_83 2 rfl ?_
      obtain ⟨v15, h14, ch14, hs⟩ := o_b2 hs
      refine V.callV (pc := 84) C (o := 0) (rm := rmX4_asKiss) (y := yX4_asKiss) (bytes := cX4_asKiss) (maxL := 2) (ret := (some .int)) (n := 1) (As := [.int x2]) (rest := []) (rv := (some (.int v15))) (h1 := h14) (st0 := [.int x2, .ref 0]) (st2 := [.int v15]) (by decide) rfl rfl (ct_X4_asKiss (kL k) ch14) wf_570 wf_572 wf_20 wf_49 wf_573 rfl rfl (by decide +kernel) ⟨by decide, by decide⟩ rfl (Nat.le_of_ble_eq_true rfl) dX4_mark_84 rfl rfl ?_
      exact V.iret (pc := 87) C T hs dX4_mark_87
    have hs := o_el c16_5 hs
    have ic16_0 : (x1).toInt ≠ 0 := fun z => c16_0 (Int32.toInt_inj.mp z)
    have ic16_1 : (x1).toInt ≠ 1 := fun z => c16_1 (Int32.toInt_inj.mp z)
    have ic16_2 : (x1).toInt ≠ 2 := fun z => c16_2 (Int32.toInt_inj.mp z)
    have ic16_3 : (x1).toInt ≠ 3 := fun z => c16_3 (Int32.toInt_inj.mp z)
    have ic16_4 : (x1).toInt ≠ 4 := fun z => c16_4 (Int32.toInt_inj.mp z)
    have ic16_5 : (x1).toInt ≠ 5 := fun z => c16_5 (Int32.toInt_inj.mp z)
    refine V.tout (pc := 15) C (tgt := 88) dX4_mark_15 (by omega) (by decide) ?_
    refine V.ldc (pc := 88) C wf_545 dX4_mark_88 ?_
    exact V.iret (pc := 90) C T hs dX4_mark_90
  · have hs := o_if c3 hs
    refine V.ldc (pc := 11) C wf_545 dX4_mark_11 ?_
    exact V.iret (pc := 13) C T hs dX4_mark_13
abbrev rmX4_imageOf : Room := { frames := 0, cells := 0, slots := 0, locals := 0 }
set_option maxRecDepth 20000 in
theorem ct_X4_imageOf (l : Launch) {x1 : Int32} {h hf : Hp} {r : Nat} (hs : X4_imageOf x1 h = some (r, hf)) : Ct l yX4_imageOf (Cond.code yX4_imageOf cX4_imageOf 2 (some (.object "EdgeOfCard$Hand")) :: wsG) rmX4_imageOf [.ref 0, .int x1] h (some (.ref r)) hf := by
  refine Ct.of (by decide +kernel) (fun _ => Nat.le_of_ble_eq_true rfl) (fun k C T => ?_)
  unfold X4_imageOf at hs
  show V k rmX4_imageOf 2 0 [(0, .ref 0), (1, .int x1)] [] h
  refine V.iload_n (pc := 0) C dX4_imageOf_0 1 rfl ?_
  refine V.if_ne (pc := 1) C (tgt := 11) dX4_imageOf_1 (by decide) (fun c1 => ?_) (fun c1 => ?_)
  · have hs := o_el c1 hs
    refine V.aload_n (pc := 11) C dX4_imageOf_11 0 rfl ?_
    refine V.getf (pc := 12) C (o := 0) (j := 6) (v := .ref 16) (by decide) rfl rfl inX4 (by decide) (by decide) wf_201 rfl dX4_imageOf_12 ?_
    exact V.aret (pc := 15) C T hs dX4_imageOf_15
  · have hs := o_if c1 hs
    refine V.aload_n (pc := 4) C dX4_imageOf_4 0 rfl ?_
    refine V.getf (pc := 5) C (o := 0) (j := 5) (v := .ref 14) (by decide) rfl rfl inX4 (by decide) (by decide) wf_200 rfl dX4_imageOf_5 ?_
    refine V.goto (pc := 8) C (tgt := 15) dX4_imageOf_8 (by decide) ?_
    exact V.aret (pc := 15) C T hs dX4_imageOf_15
abbrev rmX1_become_14_12 : Room := { frames := 1, cells := 0, slots := 0, locals := 38 }
set_option maxRecDepth 20000 in
theorem ct_X1_become_14_12 (l : Launch) {h hf : Hp} (hs : X1_become_14_12 h = some hf) : Ct l yX1_become (Cond.code yX1_become cX1_become 2 none :: wsG) rmX1_become_14_12 [.ref 14, .ref 12] h none hf := by
  refine Ct.of (by decide +kernel) (fun _ => Nat.le_of_ble_eq_true rfl) (fun k C T => ?_)
  unfold X1_become_14_12 at hs
  show V k rmX1_become_14_12 2 0 [(0, .ref 14), (1, .ref 12)] [] h
  refine V.aload_n (pc := 0) C dX1_become_0 0 rfl ?_
  refine V.aload_n (pc := 1) C dX1_become_1 1 rfl ?_
  refine V.getf (pc := 2) C (o := 12) (j := 1) (v := .int (h.1 12 1)) (by decide) rfl rfl inX1 (by decide) (by decide) wf_165 rfl dX1_become_2 ?_
  refine V.put (pc := 5) C (o := 14) (j := 1) (v := (h.1 12 1)) (by decide) rfl rfl inX1 (by decide) (by decide) wf_165 tyX1 tyX1_ok nmX1 rfl rfl rfl rfl dX1_become_5 ?_
  refine V.aload_n (pc := 8) C dX1_become_8 0 rfl ?_
  refine V.aload_n (pc := 9) C dX1_become_9 1 rfl ?_
  refine V.getf (pc := 10) C (o := 12) (j := 2) (v := .int (h.1 12 2)) (by decide) rfl rfl inX1 (by decide) (by decide) wf_167 rfl dX1_become_10 ?_
  refine V.put (pc := 13) C (o := 14) (j := 2) (v := (h.1 12 2)) (by decide) rfl rfl inX1 (by decide) (by decide) wf_167 tyX1 tyX1_ok nmX1 rfl rfl rfl rfl dX1_become_13 ?_
  refine V.aload_n (pc := 16) C dX1_become_16 0 rfl ?_
  refine V.aload_n (pc := 17) C dX1_become_17 1 rfl ?_
  refine V.getf (pc := 18) C (o := 12) (j := 3) (v := .int (h.1 12 3)) (by decide) rfl rfl inX1 (by decide) (by decide) wf_169 rfl dX1_become_18 ?_
  refine V.put (pc := 21) C (o := 14) (j := 3) (v := (h.1 12 3)) (by decide) rfl rfl inX1 (by decide) (by decide) wf_169 tyX1 tyX1_ok nmX1 rfl rfl rfl rfl dX1_become_21 ?_
  refine V.aload_n (pc := 24) C dX1_become_24 0 rfl ?_
  refine V.aload_n (pc := 25) C dX1_become_25 1 rfl ?_
  refine V.getf (pc := 26) C (o := 12) (j := 4) (v := .int (h.1 12 4)) (by decide) rfl rfl inX1 (by decide) (by decide) wf_171 rfl dX1_become_26 ?_
  refine V.put (pc := 29) C (o := 14) (j := 4) (v := (h.1 12 4)) (by decide) rfl rfl inX1 (by decide) (by decide) wf_171 tyX1 tyX1_ok nmX1 rfl rfl rfl rfl dX1_become_29 ?_
  refine V.aload_n (pc := 32) C dX1_become_32 0 rfl ?_
  refine V.aload_n (pc := 33) C dX1_become_33 1 rfl ?_
  refine V.getf (pc := 34) C (o := 12) (j := 5) (v := .int (h.1 12 5)) (by decide) rfl rfl inX1 (by decide) (by decide) wf_173 rfl dX1_become_34 ?_
  refine V.put (pc := 37) C (o := 14) (j := 5) (v := (h.1 12 5)) (by decide) rfl rfl inX1 (by decide) (by decide) wf_173 tyX1 tyX1_ok nmX1 rfl rfl rfl rfl dX1_become_37 ?_
  refine V.aload_n (pc := 40) C dX1_become_40 1 rfl ?_
  refine V.getf (pc := 41) C (o := 12) (j := 6) (v := .ref 13) (by decide) rfl rfl inX1 (by decide) (by decide) wf_175 rfl dX1_become_41 ?_
  refine V.iconst (pc := 44) C (v := (0 : Int32)) dX1_become_44 (by decide) ?_
  refine V.aload_n (pc := 45) C dX1_become_45 0 rfl ?_
  refine V.getf (pc := 46) C (o := 14) (j := 6) (v := .ref 15) (by decide) rfl rfl inX1 (by decide) (by decide) wf_175 rfl dX1_become_46 ?_
  refine V.iconst (pc := 49) C (v := (0 : Int32)) dX1_become_49 (by decide) ?_
  refine V.aload_n (pc := 50) C dX1_become_50 0 rfl ?_
  refine V.getf (pc := 51) C (o := 14) (j := 6) (v := .ref 15) (by decide) rfl rfl inX1 (by decide) (by decide) wf_175 rfl dX1_become_51 ?_
  refine V.alen (pc := 54) C (o := 15) (v := (60 : Int32)) (by decide) rfl rfl (by decide) dX1_become_54 ?_
  obtain ⟨h1, eh1, bh1, hs⟩ := o_cp hs
  refine V.acopy (pc := 55) C (a := 13) (b := 15) (h2 := h1) (by decide) (by decide) rfl rfl rfl rfl bh1 eh1 ⟨wf_367, wf_306, wf_305, wf_56⟩ (by decide) (Nat.le_of_ble_eq_true rfl) dX1_become_55 ?_
  refine V.aload_n (pc := 58) C dX1_become_58 0 rfl ?_
  refine V.aload_n (pc := 59) C dX1_become_59 1 rfl ?_
  refine V.getf (pc := 60) C (o := 12) (j := 7) (v := .int (h1.1 12 7)) (by decide) rfl rfl inX1 (by decide) (by decide) wf_176 rfl dX1_become_60 ?_
  refine V.put (pc := 63) C (o := 14) (j := 7) (v := (h1.1 12 7)) (by decide) rfl rfl inX1 (by decide) (by decide) wf_176 tyX1 tyX1_ok nmX1 rfl rfl rfl rfl dX1_become_63 ?_
  exact V.vret (pc := 66) C T hs dX1_become_66
abbrev rmX1_become_16_12 : Room := { frames := 1, cells := 0, slots := 0, locals := 38 }
set_option maxRecDepth 20000 in
theorem ct_X1_become_16_12 (l : Launch) {h hf : Hp} (hs : X1_become_16_12 h = some hf) : Ct l yX1_become (Cond.code yX1_become cX1_become 2 none :: wsG) rmX1_become_16_12 [.ref 16, .ref 12] h none hf := by
  refine Ct.of (by decide +kernel) (fun _ => Nat.le_of_ble_eq_true rfl) (fun k C T => ?_)
  unfold X1_become_16_12 at hs
  show V k rmX1_become_16_12 2 0 [(0, .ref 16), (1, .ref 12)] [] h
  refine V.aload_n (pc := 0) C dX1_become_0 0 rfl ?_
  refine V.aload_n (pc := 1) C dX1_become_1 1 rfl ?_
  refine V.getf (pc := 2) C (o := 12) (j := 1) (v := .int (h.1 12 1)) (by decide) rfl rfl inX1 (by decide) (by decide) wf_165 rfl dX1_become_2 ?_
  refine V.put (pc := 5) C (o := 16) (j := 1) (v := (h.1 12 1)) (by decide) rfl rfl inX1 (by decide) (by decide) wf_165 tyX1 tyX1_ok nmX1 rfl rfl rfl rfl dX1_become_5 ?_
  refine V.aload_n (pc := 8) C dX1_become_8 0 rfl ?_
  refine V.aload_n (pc := 9) C dX1_become_9 1 rfl ?_
  refine V.getf (pc := 10) C (o := 12) (j := 2) (v := .int (h.1 12 2)) (by decide) rfl rfl inX1 (by decide) (by decide) wf_167 rfl dX1_become_10 ?_
  refine V.put (pc := 13) C (o := 16) (j := 2) (v := (h.1 12 2)) (by decide) rfl rfl inX1 (by decide) (by decide) wf_167 tyX1 tyX1_ok nmX1 rfl rfl rfl rfl dX1_become_13 ?_
  refine V.aload_n (pc := 16) C dX1_become_16 0 rfl ?_
  refine V.aload_n (pc := 17) C dX1_become_17 1 rfl ?_
  refine V.getf (pc := 18) C (o := 12) (j := 3) (v := .int (h.1 12 3)) (by decide) rfl rfl inX1 (by decide) (by decide) wf_169 rfl dX1_become_18 ?_
  refine V.put (pc := 21) C (o := 16) (j := 3) (v := (h.1 12 3)) (by decide) rfl rfl inX1 (by decide) (by decide) wf_169 tyX1 tyX1_ok nmX1 rfl rfl rfl rfl dX1_become_21 ?_
  refine V.aload_n (pc := 24) C dX1_become_24 0 rfl ?_
  refine V.aload_n (pc := 25) C dX1_become_25 1 rfl ?_
  refine V.getf (pc := 26) C (o := 12) (j := 4) (v := .int (h.1 12 4)) (by decide) rfl rfl inX1 (by decide) (by decide) wf_171 rfl dX1_become_26 ?_
  refine V.put (pc := 29) C (o := 16) (j := 4) (v := (h.1 12 4)) (by decide) rfl rfl inX1 (by decide) (by decide) wf_171 tyX1 tyX1_ok nmX1 rfl rfl rfl rfl dX1_become_29 ?_
  refine V.aload_n (pc := 32) C dX1_become_32 0 rfl ?_
  refine V.aload_n (pc := 33) C dX1_become_33 1 rfl ?_
  refine V.getf (pc := 34) C (o := 12) (j := 5) (v := .int (h.1 12 5)) (by decide) rfl rfl inX1 (by decide) (by decide) wf_173 rfl dX1_become_34 ?_
  refine V.put (pc := 37) C (o := 16) (j := 5) (v := (h.1 12 5)) (by decide) rfl rfl inX1 (by decide) (by decide) wf_173 tyX1 tyX1_ok nmX1 rfl rfl rfl rfl dX1_become_37 ?_
  refine V.aload_n (pc := 40) C dX1_become_40 1 rfl ?_
  refine V.getf (pc := 41) C (o := 12) (j := 6) (v := .ref 13) (by decide) rfl rfl inX1 (by decide) (by decide) wf_175 rfl dX1_become_41 ?_
  refine V.iconst (pc := 44) C (v := (0 : Int32)) dX1_become_44 (by decide) ?_
  refine V.aload_n (pc := 45) C dX1_become_45 0 rfl ?_
  refine V.getf (pc := 46) C (o := 16) (j := 6) (v := .ref 17) (by decide) rfl rfl inX1 (by decide) (by decide) wf_175 rfl dX1_become_46 ?_
  refine V.iconst (pc := 49) C (v := (0 : Int32)) dX1_become_49 (by decide) ?_
  refine V.aload_n (pc := 50) C dX1_become_50 0 rfl ?_
  refine V.getf (pc := 51) C (o := 16) (j := 6) (v := .ref 17) (by decide) rfl rfl inX1 (by decide) (by decide) wf_175 rfl dX1_become_51 ?_
  refine V.alen (pc := 54) C (o := 17) (v := (60 : Int32)) (by decide) rfl rfl (by decide) dX1_become_54 ?_
  obtain ⟨h1, eh1, bh1, hs⟩ := o_cp hs
  refine V.acopy (pc := 55) C (a := 13) (b := 17) (h2 := h1) (by decide) (by decide) rfl rfl rfl rfl bh1 eh1 ⟨wf_367, wf_306, wf_305, wf_56⟩ (by decide) (Nat.le_of_ble_eq_true rfl) dX1_become_55 ?_
  refine V.aload_n (pc := 58) C dX1_become_58 0 rfl ?_
  refine V.aload_n (pc := 59) C dX1_become_59 1 rfl ?_
  refine V.getf (pc := 60) C (o := 12) (j := 7) (v := .int (h1.1 12 7)) (by decide) rfl rfl inX1 (by decide) (by decide) wf_176 rfl dX1_become_60 ?_
  refine V.put (pc := 63) C (o := 16) (j := 7) (v := (h1.1 12 7)) (by decide) rfl rfl inX1 (by decide) (by decide) wf_176 tyX1 tyX1_ok nmX1 rfl rfl rfl rfl dX1_become_63 ?_
  exact V.vret (pc := 66) C T hs dX1_become_66
abbrev rmX4_keep : Room := { frames := 2, cells := 0, slots := 0, locals := 59 }
set_option maxRecDepth 20000 in
theorem ct_X4_keep (l : Launch) {x1 : Int32} {h hf : Hp} {r : Int32} (hs : X4_keep x1 h = some (r, hf)) : Ct l yX4_keep (Cond.code yX4_keep cX4_keep 2 (some .int) :: wsG) rmX4_keep [.ref 0, .int x1] h (some (.int r)) hf := by
  refine Ct.of (by decide +kernel) (fun _ => Nat.le_of_ble_eq_true rfl) (fun k C T => ?_)
  unfold X4_keep at hs
  show V k rmX4_keep 2 0 [(0, .ref 0), (1, .int x1)] [] h
  refine V.iload_n (pc := 0) C dX4_keep_0 1 rfl ?_
  refine V.iconst (pc := 1) C (v := (0 : Int32)) dX4_keep_1 (by decide) ?_
  refine V.iconst (pc := 2) C (v := (1 : Int32)) dX4_keep_2 (by decide) ?_
  obtain ⟨v2, h1, ch1, hs⟩ := o_b2 hs
  refine V.callS (pc := 3) C (rm := rmX4_within) (y := yX4_within) (bytes := cX4_within) (maxL := 3) (ret := (some .boolean)) (n := 3) (As := [.int x1, .int (0 : Int32), .int (1 : Int32)]) (rest := []) (rv := (some (.int v2))) (h1 := h1) (st0 := [.int (1 : Int32), .int (0 : Int32), .int x1]) (st2 := [.int v2]) (ct_X4_within (kL k) ch1) wf_236 wf_237 wf_49 wf_238 rfl rfl (by decide +kernel) ⟨by decide, by decide⟩ rfl (Nat.le_of_ble_eq_true rfl) dX4_keep_3 rfl rfl ?_
  refine V.if_ne (pc := 6) C (tgt := 11) dX4_keep_6 (by decide) (fun c3 => ?_) (fun c3 => ?_)
  · have hs := o_el c3 hs
    refine V.aload_n (pc := 11) C dX4_keep_11 0 rfl ?_
    refine V.iload_n (pc := 12) C dX4_keep_12 1 rfl ?_
    obtain ⟨v5, h4, ch4, hs⟩ := o_b2 hs
    refine V.callV (pc := 13) C (o := 0) (rm := rmX4_imageOf) (y := yX4_imageOf) (bytes := cX4_imageOf) (maxL := 2) (ret := (some (.object "EdgeOfCard$Hand"))) (n := 1) (As := [.int x1]) (rest := []) (rv := (some (.ref v5))) (h1 := h4) (st0 := [.int x1, .ref 0]) (st2 := [.ref v5]) (by decide) rfl rfl (ct_X4_imageOf (kL k) ch4) wf_579 wf_581 wf_21 wf_49 wf_582 rfl rfl (by decide +kernel) ⟨by decide, by decide⟩ rfl (Nat.le_of_ble_eq_true rfl) dX4_keep_13 rfl rfl ?_
    refine V.aload_n (pc := 16) C dX4_keep_16 0 rfl ?_
    refine V.getf (pc := 17) C (o := 0) (j := 4) (v := .ref 12) (by decide) rfl rfl inX4 (by decide) (by decide) wf_199 rfl dX4_keep_17 ?_
    by_cases qv5_14 : v5 = 14
    · replace hs := o_if qv5_14 hs
      subst qv5_14
      obtain ⟨h6, ch6, hs⟩ := o_bind hs
      refine V.callV (pc := 20) C (o := 14) (rm := rmX1_become_14_12) (y := yX1_become) (bytes := cX1_become) (maxL := 2) (ret := none) (n := 1) (As := [.ref 12]) (rest := []) (rv := none) (h1 := h6) (st0 := [.ref 12, .ref 14]) (st2 := []) (by decide) rfl rfl (ct_X1_become_14_12 (kL k) ch6) wf_583 wf_584 wf_585 wf_53 wf_586 rfl rfl (by decide +kernel) ⟨by decide, by decide⟩ rfl (Nat.le_of_ble_eq_true rfl) dX4_keep_20 rfl rfl ?_
      refine V.aload_n (pc := 23) C dX4_keep_23 0 rfl ?_
      refine V.dup (pc := 24) C dX4_keep_24 rfl ?_
      refine V.getf (pc := 25) C (o := 0) (j := 7) (v := .int (h6.1 0 7)) (by decide) rfl rfl inX4 (by decide) (by decide) wf_202 rfl dX4_keep_25 ?_
      refine V.iconst (pc := 28) C (v := (1 : Int32)) dX4_keep_28 (by decide) ?_
      refine V.iload_n (pc := 29) C dX4_keep_29 1 rfl ?_
      refine V.ishl (pc := 30) C dX4_keep_30 ?_
      refine V.ior (pc := 31) C dX4_keep_31 ?_
      refine V.put (pc := 32) C (o := 0) (j := 7) (v := ((h6.1 0 7) ||| ((1 : Int32) <<< (x1 &&& 31)))) (by decide) rfl rfl inX4 (by decide) (by decide) wf_202 tyX4 tyX4_ok nmX4 rfl rfl rfl rfl dX4_keep_32 ?_
      refine V.aload_n (pc := 35) C dX4_keep_35 0 rfl ?_
      refine V.getf (pc := 36) C (o := 0) (j := 4) (v := .ref 12) (by decide) rfl rfl inX4 (by decide) (by decide) wf_199 rfl dX4_keep_36 ?_
      refine V.getN (pc := 39) C (o := 12) (j := 1) (v := .int (h6.1 12 1)) (by decide) rfl rfl inX1 (by decide) (by decide) nw_15 rfl dX4_keep_39 ?_
      exact V.iret (pc := 42) C T hs dX4_keep_42
    replace hs := o_el qv5_14 hs
    by_cases qv5_16 : v5 = 16
    · replace hs := o_if qv5_16 hs
      subst qv5_16
      obtain ⟨h7, ch7, hs⟩ := o_bind hs
      refine V.callV (pc := 20) C (o := 16) (rm := rmX1_become_16_12) (y := yX1_become) (bytes := cX1_become) (maxL := 2) (ret := none) (n := 1) (As := [.ref 12]) (rest := []) (rv := none) (h1 := h7) (st0 := [.ref 12, .ref 16]) (st2 := []) (by decide) rfl rfl (ct_X1_become_16_12 (kL k) ch7) wf_583 wf_584 wf_585 wf_53 wf_586 rfl rfl (by decide +kernel) ⟨by decide, by decide⟩ rfl (Nat.le_of_ble_eq_true rfl) dX4_keep_20 rfl rfl ?_
      refine V.aload_n (pc := 23) C dX4_keep_23 0 rfl ?_
      refine V.dup (pc := 24) C dX4_keep_24 rfl ?_
      refine V.getf (pc := 25) C (o := 0) (j := 7) (v := .int (h7.1 0 7)) (by decide) rfl rfl inX4 (by decide) (by decide) wf_202 rfl dX4_keep_25 ?_
      refine V.iconst (pc := 28) C (v := (1 : Int32)) dX4_keep_28 (by decide) ?_
      refine V.iload_n (pc := 29) C dX4_keep_29 1 rfl ?_
      refine V.ishl (pc := 30) C dX4_keep_30 ?_
      refine V.ior (pc := 31) C dX4_keep_31 ?_
      refine V.put (pc := 32) C (o := 0) (j := 7) (v := ((h7.1 0 7) ||| ((1 : Int32) <<< (x1 &&& 31)))) (by decide) rfl rfl inX4 (by decide) (by decide) wf_202 tyX4 tyX4_ok nmX4 rfl rfl rfl rfl dX4_keep_32 ?_
      refine V.aload_n (pc := 35) C dX4_keep_35 0 rfl ?_
      refine V.getf (pc := 36) C (o := 0) (j := 4) (v := .ref 12) (by decide) rfl rfl inX4 (by decide) (by decide) wf_199 rfl dX4_keep_36 ?_
      refine V.getN (pc := 39) C (o := 12) (j := 1) (v := .int (h7.1 12 1)) (by decide) rfl rfl inX1 (by decide) (by decide) nw_15 rfl dX4_keep_39 ?_
      exact V.iret (pc := 42) C T hs dX4_keep_42
    replace hs := o_el qv5_16 hs
    cases hs
  · have hs := o_if c3 hs
    refine V.iconst (pc := 9) C (v := (-1 : Int32)) dX4_keep_9 (by decide) ?_
    exact V.iret (pc := 10) C T hs dX4_keep_10
abbrev rmX1_become_12_14 : Room := { frames := 1, cells := 0, slots := 0, locals := 38 }
set_option maxRecDepth 20000 in
theorem ct_X1_become_12_14 (l : Launch) {h hf : Hp} (hs : X1_become_12_14 h = some hf) : Ct l yX1_become (Cond.code yX1_become cX1_become 2 none :: wsG) rmX1_become_12_14 [.ref 12, .ref 14] h none hf := by
  refine Ct.of (by decide +kernel) (fun _ => Nat.le_of_ble_eq_true rfl) (fun k C T => ?_)
  unfold X1_become_12_14 at hs
  show V k rmX1_become_12_14 2 0 [(0, .ref 12), (1, .ref 14)] [] h
  refine V.aload_n (pc := 0) C dX1_become_0 0 rfl ?_
  refine V.aload_n (pc := 1) C dX1_become_1 1 rfl ?_
  refine V.getf (pc := 2) C (o := 14) (j := 1) (v := .int (h.1 14 1)) (by decide) rfl rfl inX1 (by decide) (by decide) wf_165 rfl dX1_become_2 ?_
  refine V.put (pc := 5) C (o := 12) (j := 1) (v := (h.1 14 1)) (by decide) rfl rfl inX1 (by decide) (by decide) wf_165 tyX1 tyX1_ok nmX1 rfl rfl rfl rfl dX1_become_5 ?_
  refine V.aload_n (pc := 8) C dX1_become_8 0 rfl ?_
  refine V.aload_n (pc := 9) C dX1_become_9 1 rfl ?_
  refine V.getf (pc := 10) C (o := 14) (j := 2) (v := .int (h.1 14 2)) (by decide) rfl rfl inX1 (by decide) (by decide) wf_167 rfl dX1_become_10 ?_
  refine V.put (pc := 13) C (o := 12) (j := 2) (v := (h.1 14 2)) (by decide) rfl rfl inX1 (by decide) (by decide) wf_167 tyX1 tyX1_ok nmX1 rfl rfl rfl rfl dX1_become_13 ?_
  refine V.aload_n (pc := 16) C dX1_become_16 0 rfl ?_
  refine V.aload_n (pc := 17) C dX1_become_17 1 rfl ?_
  refine V.getf (pc := 18) C (o := 14) (j := 3) (v := .int (h.1 14 3)) (by decide) rfl rfl inX1 (by decide) (by decide) wf_169 rfl dX1_become_18 ?_
  refine V.put (pc := 21) C (o := 12) (j := 3) (v := (h.1 14 3)) (by decide) rfl rfl inX1 (by decide) (by decide) wf_169 tyX1 tyX1_ok nmX1 rfl rfl rfl rfl dX1_become_21 ?_
  refine V.aload_n (pc := 24) C dX1_become_24 0 rfl ?_
  refine V.aload_n (pc := 25) C dX1_become_25 1 rfl ?_
  refine V.getf (pc := 26) C (o := 14) (j := 4) (v := .int (h.1 14 4)) (by decide) rfl rfl inX1 (by decide) (by decide) wf_171 rfl dX1_become_26 ?_
  refine V.put (pc := 29) C (o := 12) (j := 4) (v := (h.1 14 4)) (by decide) rfl rfl inX1 (by decide) (by decide) wf_171 tyX1 tyX1_ok nmX1 rfl rfl rfl rfl dX1_become_29 ?_
  refine V.aload_n (pc := 32) C dX1_become_32 0 rfl ?_
  refine V.aload_n (pc := 33) C dX1_become_33 1 rfl ?_
  refine V.getf (pc := 34) C (o := 14) (j := 5) (v := .int (h.1 14 5)) (by decide) rfl rfl inX1 (by decide) (by decide) wf_173 rfl dX1_become_34 ?_
  refine V.put (pc := 37) C (o := 12) (j := 5) (v := (h.1 14 5)) (by decide) rfl rfl inX1 (by decide) (by decide) wf_173 tyX1 tyX1_ok nmX1 rfl rfl rfl rfl dX1_become_37 ?_
  refine V.aload_n (pc := 40) C dX1_become_40 1 rfl ?_
  refine V.getf (pc := 41) C (o := 14) (j := 6) (v := .ref 15) (by decide) rfl rfl inX1 (by decide) (by decide) wf_175 rfl dX1_become_41 ?_
  refine V.iconst (pc := 44) C (v := (0 : Int32)) dX1_become_44 (by decide) ?_
  refine V.aload_n (pc := 45) C dX1_become_45 0 rfl ?_
  refine V.getf (pc := 46) C (o := 12) (j := 6) (v := .ref 13) (by decide) rfl rfl inX1 (by decide) (by decide) wf_175 rfl dX1_become_46 ?_
  refine V.iconst (pc := 49) C (v := (0 : Int32)) dX1_become_49 (by decide) ?_
  refine V.aload_n (pc := 50) C dX1_become_50 0 rfl ?_
  refine V.getf (pc := 51) C (o := 12) (j := 6) (v := .ref 13) (by decide) rfl rfl inX1 (by decide) (by decide) wf_175 rfl dX1_become_51 ?_
  refine V.alen (pc := 54) C (o := 13) (v := (60 : Int32)) (by decide) rfl rfl (by decide) dX1_become_54 ?_
  obtain ⟨h1, eh1, bh1, hs⟩ := o_cp hs
  refine V.acopy (pc := 55) C (a := 15) (b := 13) (h2 := h1) (by decide) (by decide) rfl rfl rfl rfl bh1 eh1 ⟨wf_367, wf_306, wf_305, wf_56⟩ (by decide) (Nat.le_of_ble_eq_true rfl) dX1_become_55 ?_
  refine V.aload_n (pc := 58) C dX1_become_58 0 rfl ?_
  refine V.aload_n (pc := 59) C dX1_become_59 1 rfl ?_
  refine V.getf (pc := 60) C (o := 14) (j := 7) (v := .int (h1.1 14 7)) (by decide) rfl rfl inX1 (by decide) (by decide) wf_176 rfl dX1_become_60 ?_
  refine V.put (pc := 63) C (o := 12) (j := 7) (v := (h1.1 14 7)) (by decide) rfl rfl inX1 (by decide) (by decide) wf_176 tyX1 tyX1_ok nmX1 rfl rfl rfl rfl dX1_become_63 ?_
  exact V.vret (pc := 66) C T hs dX1_become_66
abbrev rmX1_become_12_16 : Room := { frames := 1, cells := 0, slots := 0, locals := 38 }
set_option maxRecDepth 20000 in
theorem ct_X1_become_12_16 (l : Launch) {h hf : Hp} (hs : X1_become_12_16 h = some hf) : Ct l yX1_become (Cond.code yX1_become cX1_become 2 none :: wsG) rmX1_become_12_16 [.ref 12, .ref 16] h none hf := by
  refine Ct.of (by decide +kernel) (fun _ => Nat.le_of_ble_eq_true rfl) (fun k C T => ?_)
  unfold X1_become_12_16 at hs
  show V k rmX1_become_12_16 2 0 [(0, .ref 12), (1, .ref 16)] [] h
  refine V.aload_n (pc := 0) C dX1_become_0 0 rfl ?_
  refine V.aload_n (pc := 1) C dX1_become_1 1 rfl ?_
  refine V.getf (pc := 2) C (o := 16) (j := 1) (v := .int (h.1 16 1)) (by decide) rfl rfl inX1 (by decide) (by decide) wf_165 rfl dX1_become_2 ?_
  refine V.put (pc := 5) C (o := 12) (j := 1) (v := (h.1 16 1)) (by decide) rfl rfl inX1 (by decide) (by decide) wf_165 tyX1 tyX1_ok nmX1 rfl rfl rfl rfl dX1_become_5 ?_
  refine V.aload_n (pc := 8) C dX1_become_8 0 rfl ?_
  refine V.aload_n (pc := 9) C dX1_become_9 1 rfl ?_
  refine V.getf (pc := 10) C (o := 16) (j := 2) (v := .int (h.1 16 2)) (by decide) rfl rfl inX1 (by decide) (by decide) wf_167 rfl dX1_become_10 ?_
  refine V.put (pc := 13) C (o := 12) (j := 2) (v := (h.1 16 2)) (by decide) rfl rfl inX1 (by decide) (by decide) wf_167 tyX1 tyX1_ok nmX1 rfl rfl rfl rfl dX1_become_13 ?_
  refine V.aload_n (pc := 16) C dX1_become_16 0 rfl ?_
  refine V.aload_n (pc := 17) C dX1_become_17 1 rfl ?_
  refine V.getf (pc := 18) C (o := 16) (j := 3) (v := .int (h.1 16 3)) (by decide) rfl rfl inX1 (by decide) (by decide) wf_169 rfl dX1_become_18 ?_
  refine V.put (pc := 21) C (o := 12) (j := 3) (v := (h.1 16 3)) (by decide) rfl rfl inX1 (by decide) (by decide) wf_169 tyX1 tyX1_ok nmX1 rfl rfl rfl rfl dX1_become_21 ?_
  refine V.aload_n (pc := 24) C dX1_become_24 0 rfl ?_
  refine V.aload_n (pc := 25) C dX1_become_25 1 rfl ?_
  refine V.getf (pc := 26) C (o := 16) (j := 4) (v := .int (h.1 16 4)) (by decide) rfl rfl inX1 (by decide) (by decide) wf_171 rfl dX1_become_26 ?_
  refine V.put (pc := 29) C (o := 12) (j := 4) (v := (h.1 16 4)) (by decide) rfl rfl inX1 (by decide) (by decide) wf_171 tyX1 tyX1_ok nmX1 rfl rfl rfl rfl dX1_become_29 ?_
  refine V.aload_n (pc := 32) C dX1_become_32 0 rfl ?_
  refine V.aload_n (pc := 33) C dX1_become_33 1 rfl ?_
  refine V.getf (pc := 34) C (o := 16) (j := 5) (v := .int (h.1 16 5)) (by decide) rfl rfl inX1 (by decide) (by decide) wf_173 rfl dX1_become_34 ?_
  refine V.put (pc := 37) C (o := 12) (j := 5) (v := (h.1 16 5)) (by decide) rfl rfl inX1 (by decide) (by decide) wf_173 tyX1 tyX1_ok nmX1 rfl rfl rfl rfl dX1_become_37 ?_
  refine V.aload_n (pc := 40) C dX1_become_40 1 rfl ?_
  refine V.getf (pc := 41) C (o := 16) (j := 6) (v := .ref 17) (by decide) rfl rfl inX1 (by decide) (by decide) wf_175 rfl dX1_become_41 ?_
  refine V.iconst (pc := 44) C (v := (0 : Int32)) dX1_become_44 (by decide) ?_
  refine V.aload_n (pc := 45) C dX1_become_45 0 rfl ?_
  refine V.getf (pc := 46) C (o := 12) (j := 6) (v := .ref 13) (by decide) rfl rfl inX1 (by decide) (by decide) wf_175 rfl dX1_become_46 ?_
  refine V.iconst (pc := 49) C (v := (0 : Int32)) dX1_become_49 (by decide) ?_
  refine V.aload_n (pc := 50) C dX1_become_50 0 rfl ?_
  refine V.getf (pc := 51) C (o := 12) (j := 6) (v := .ref 13) (by decide) rfl rfl inX1 (by decide) (by decide) wf_175 rfl dX1_become_51 ?_
  refine V.alen (pc := 54) C (o := 13) (v := (60 : Int32)) (by decide) rfl rfl (by decide) dX1_become_54 ?_
  obtain ⟨h1, eh1, bh1, hs⟩ := o_cp hs
  refine V.acopy (pc := 55) C (a := 17) (b := 13) (h2 := h1) (by decide) (by decide) rfl rfl rfl rfl bh1 eh1 ⟨wf_367, wf_306, wf_305, wf_56⟩ (by decide) (Nat.le_of_ble_eq_true rfl) dX1_become_55 ?_
  refine V.aload_n (pc := 58) C dX1_become_58 0 rfl ?_
  refine V.aload_n (pc := 59) C dX1_become_59 1 rfl ?_
  refine V.getf (pc := 60) C (o := 16) (j := 7) (v := .int (h1.1 16 7)) (by decide) rfl rfl inX1 (by decide) (by decide) wf_176 rfl dX1_become_60 ?_
  refine V.put (pc := 63) C (o := 12) (j := 7) (v := (h1.1 16 7)) (by decide) rfl rfl inX1 (by decide) (by decide) wf_176 tyX1 tyX1_ok nmX1 rfl rfl rfl rfl dX1_become_63 ?_
  exact V.vret (pc := 66) C T hs dX1_become_66
abbrev rmX4_back : Room := { frames := 2, cells := 0, slots := 0, locals := 59 }
set_option maxRecDepth 20000 in
theorem ct_X4_back (l : Launch) {x1 : Int32} {h hf : Hp} {r : Int32} (hs : X4_back x1 h = some (r, hf)) : Ct l yX4_back (Cond.code yX4_back cX4_back 2 (some .int) :: wsG) rmX4_back [.ref 0, .int x1] h (some (.int r)) hf := by
  refine Ct.of (by decide +kernel) (fun _ => Nat.le_of_ble_eq_true rfl) (fun k C T => ?_)
  unfold X4_back at hs
  show V k rmX4_back 2 0 [(0, .ref 0), (1, .int x1)] [] h
  refine V.iload_n (pc := 0) C dX4_back_0 1 rfl ?_
  refine V.iconst (pc := 1) C (v := (0 : Int32)) dX4_back_1 (by decide) ?_
  refine V.iconst (pc := 2) C (v := (1 : Int32)) dX4_back_2 (by decide) ?_
  obtain ⟨v2, h1, ch1, hs⟩ := o_b2 hs
  refine V.callS (pc := 3) C (rm := rmX4_within) (y := yX4_within) (bytes := cX4_within) (maxL := 3) (ret := (some .boolean)) (n := 3) (As := [.int x1, .int (0 : Int32), .int (1 : Int32)]) (rest := []) (rv := (some (.int v2))) (h1 := h1) (st0 := [.int (1 : Int32), .int (0 : Int32), .int x1]) (st2 := [.int v2]) (ct_X4_within (kL k) ch1) wf_236 wf_237 wf_49 wf_238 rfl rfl (by decide +kernel) ⟨by decide, by decide⟩ rfl (Nat.le_of_ble_eq_true rfl) dX4_back_3 rfl rfl ?_
  refine V.if_ne (pc := 6) C (tgt := 11) dX4_back_6 (by decide) (fun c3 => ?_) (fun c3 => ?_)
  · have hs := o_el c3 hs
    refine V.aload_n (pc := 11) C dX4_back_11 0 rfl ?_
    refine V.getf (pc := 12) C (o := 0) (j := 7) (v := .int (h1.1 0 7)) (by decide) rfl rfl inX4 (by decide) (by decide) wf_202 rfl dX4_back_12 ?_
    refine V.iload_n (pc := 15) C dX4_back_15 1 rfl ?_
    obtain ⟨v5, h4, ch4, hs⟩ := o_b2 hs
    refine V.callS (pc := 16) C (rm := rmX4_bit) (y := yX4_bit) (bytes := cX4_bit) (maxL := 2) (ret := (some .int)) (n := 2) (As := [.int (h1.1 0 7), .int x1]) (rest := []) (rv := (some (.int v5))) (h1 := h4) (st0 := [.int x1, .int (h1.1 0 7)]) (st2 := [.int v5]) (ct_X4_bit (kL k) ch4) wf_339 wf_340 wf_49 wf_341 rfl rfl (by decide +kernel) ⟨by decide, by decide⟩ rfl (Nat.le_of_ble_eq_true rfl) dX4_back_16 rfl rfl ?_
    refine V.if_ne (pc := 19) C (tgt := 25) dX4_back_19 (by decide) (fun c6 => ?_) (fun c6 => ?_)
    · have hs := o_el c6 hs
      refine V.aload_n (pc := 25) C dX4_back_25 0 rfl ?_
      refine V.getf (pc := 26) C (o := 0) (j := 4) (v := .ref 12) (by decide) rfl rfl inX4 (by decide) (by decide) wf_199 rfl dX4_back_26 ?_
      refine V.aload_n (pc := 29) C dX4_back_29 0 rfl ?_
      refine V.iload_n (pc := 30) C dX4_back_30 1 rfl ?_
      obtain ⟨v8, h7, ch7, hs⟩ := o_b2 hs
      refine V.callV (pc := 31) C (o := 0) (rm := rmX4_imageOf) (y := yX4_imageOf) (bytes := cX4_imageOf) (maxL := 2) (ret := (some (.object "EdgeOfCard$Hand"))) (n := 1) (As := [.int x1]) (rest := [.ref 12]) (rv := (some (.ref v8))) (h1 := h7) (st0 := [.int x1, .ref 0, .ref 12]) (st2 := [.ref v8, .ref 12]) (by decide) rfl rfl (ct_X4_imageOf (kL k) ch7) wf_579 wf_581 wf_21 wf_49 wf_582 rfl rfl (by decide +kernel) ⟨by decide, by decide⟩ rfl (Nat.le_of_ble_eq_true rfl) dX4_back_31 rfl rfl ?_
      by_cases qv8_14 : v8 = 14
      · replace hs := o_if qv8_14 hs
        subst qv8_14
        obtain ⟨h9, ch9, hs⟩ := o_bind hs
        refine V.callV (pc := 34) C (o := 12) (rm := rmX1_become_12_14) (y := yX1_become) (bytes := cX1_become) (maxL := 2) (ret := none) (n := 1) (As := [.ref 14]) (rest := []) (rv := none) (h1 := h9) (st0 := [.ref 14, .ref 12]) (st2 := []) (by decide) rfl rfl (ct_X1_become_12_14 (kL k) ch9) wf_583 wf_584 wf_585 wf_53 wf_586 rfl rfl (by decide +kernel) ⟨by decide, by decide⟩ rfl (Nat.le_of_ble_eq_true rfl) dX4_back_34 rfl rfl ?_
        refine V.aload_n (pc := 37) C dX4_back_37 0 rfl ?_
        refine V.getf (pc := 38) C (o := 0) (j := 4) (v := .ref 12) (by decide) rfl rfl inX4 (by decide) (by decide) wf_199 rfl dX4_back_38 ?_
        refine V.getN (pc := 41) C (o := 12) (j := 1) (v := .int (h9.1 12 1)) (by decide) rfl rfl inX1 (by decide) (by decide) nw_15 rfl dX4_back_41 ?_
        exact V.iret (pc := 44) C T hs dX4_back_44
      replace hs := o_el qv8_14 hs
      by_cases qv8_16 : v8 = 16
      · replace hs := o_if qv8_16 hs
        subst qv8_16
        obtain ⟨h10, ch10, hs⟩ := o_bind hs
        refine V.callV (pc := 34) C (o := 12) (rm := rmX1_become_12_16) (y := yX1_become) (bytes := cX1_become) (maxL := 2) (ret := none) (n := 1) (As := [.ref 16]) (rest := []) (rv := none) (h1 := h10) (st0 := [.ref 16, .ref 12]) (st2 := []) (by decide) rfl rfl (ct_X1_become_12_16 (kL k) ch10) wf_583 wf_584 wf_585 wf_53 wf_586 rfl rfl (by decide +kernel) ⟨by decide, by decide⟩ rfl (Nat.le_of_ble_eq_true rfl) dX4_back_34 rfl rfl ?_
        refine V.aload_n (pc := 37) C dX4_back_37 0 rfl ?_
        refine V.getf (pc := 38) C (o := 0) (j := 4) (v := .ref 12) (by decide) rfl rfl inX4 (by decide) (by decide) wf_199 rfl dX4_back_38 ?_
        refine V.getN (pc := 41) C (o := 12) (j := 1) (v := .int (h10.1 12 1)) (by decide) rfl rfl inX1 (by decide) (by decide) nw_15 rfl dX4_back_41 ?_
        exact V.iret (pc := 44) C T hs dX4_back_44
      replace hs := o_el qv8_16 hs
      cases hs
    · have hs := o_if c6 hs
      refine V.bipush (pc := 22) C (v := (-2 : Int32)) dX4_back_22 (by decide) ?_
      exact V.iret (pc := 24) C T hs dX4_back_24
  · have hs := o_if c3 hs
    refine V.iconst (pc := 9) C (v := (-1 : Int32)) dX4_back_9 (by decide) ?_
    exact V.iret (pc := 10) C T hs dX4_back_10
abbrev rmX4_count : Room := { frames := 0, cells := 0, slots := 0, locals := 0 }
set_option maxRecDepth 20000 in
theorem ct_X4_count (l : Launch) {x1 : Int32} {h hf : Hp} {r : Int32} (hs : X4_count x1 h = some (r, hf)) : Ct l yX4_count (Cond.code yX4_count cX4_count 2 (some .int) :: wsG) rmX4_count [.ref 0, .int x1] h (some (.int r)) hf := by
  refine Ct.of (by decide +kernel) (fun _ => Nat.le_of_ble_eq_true rfl) (fun k C T => ?_)
  unfold X4_count at hs
  show V k rmX4_count 2 0 [(0, .ref 0), (1, .int x1)] [] h
  refine V.iload_n (pc := 0) C dX4_count_0 1 rfl ?_
  by_cases c1_0 : x1 = (0 : Int32)
  · have hs := o_if c1_0 hs
    refine V.tin (pc := 1) C (tgt := 40) (off := 39) dX4_count_1 c1_0 (by decide) (by decide) (by decide) (by decide) ?_
    refine V.aload_n (pc := 40) C dX4_count_40 0 rfl ?_
    refine V.getf (pc := 41) C (o := 0) (j := 1) (v := .ref 4) (by decide) rfl rfl inX4 (by decide) (by decide) wf_196 rfl dX4_count_41 ?_
    refine V.getN (pc := 44) C (o := 4) (j := 2) (v := .int (h.1 4 2)) (by decide) rfl rfl inX3 (by decide) (by decide) nw_7 rfl dX4_count_44 ?_
    exact V.iret (pc := 47) C T hs dX4_count_47
  have hs := o_el c1_0 hs
  by_cases c1_1 : x1 = (1 : Int32)
  · have hs := o_if c1_1 hs
    refine V.tin (pc := 1) C (tgt := 48) (off := 47) dX4_count_1 c1_1 (by decide) (by decide) (by decide) (by decide) ?_
    refine V.aload_n (pc := 48) C dX4_count_48 0 rfl ?_
    refine V.getf (pc := 49) C (o := 0) (j := 1) (v := .ref 4) (by decide) rfl rfl inX4 (by decide) (by decide) wf_196 rfl dX4_count_49 ?_
    refine V.getN (pc := 52) C (o := 4) (j := 3) (v := .int (h.1 4 3)) (by decide) rfl rfl inX3 (by decide) (by decide) nw_10 rfl dX4_count_52 ?_
    exact V.iret (pc := 55) C T hs dX4_count_55
  have hs := o_el c1_1 hs
  by_cases c1_2 : x1 = (2 : Int32)
  · have hs := o_if c1_2 hs
    refine V.tin (pc := 1) C (tgt := 56) (off := 55) dX4_count_1 c1_2 (by decide) (by decide) (by decide) (by decide) ?_
    refine V.aload_n (pc := 56) C dX4_count_56 0 rfl ?_
    refine V.getf (pc := 57) C (o := 0) (j := 1) (v := .ref 4) (by decide) rfl rfl inX4 (by decide) (by decide) wf_196 rfl dX4_count_57 ?_
    refine V.getN (pc := 60) C (o := 4) (j := 4) (v := .int (h.1 4 4)) (by decide) rfl rfl inX3 (by decide) (by decide) nw_12 rfl dX4_count_60 ?_
    exact V.iret (pc := 63) C T hs dX4_count_63
  have hs := o_el c1_2 hs
  by_cases c1_3 : x1 = (3 : Int32)
  · have hs := o_if c1_3 hs
    refine V.tin (pc := 1) C (tgt := 64) (off := 63) dX4_count_1 c1_3 (by decide) (by decide) (by decide) (by decide) ?_
    refine V.aload_n (pc := 64) C dX4_count_64 0 rfl ?_
    refine V.getf (pc := 65) C (o := 0) (j := 10) (v := .int (h.1 0 10)) (by decide) rfl rfl inX4 (by decide) (by decide) wf_205 rfl dX4_count_65 ?_
    exact V.iret (pc := 68) C T hs dX4_count_68
  have hs := o_el c1_3 hs
  by_cases c1_4 : x1 = (4 : Int32)
  · have hs := o_if c1_4 hs
    refine V.tin (pc := 1) C (tgt := 69) (off := 68) dX4_count_1 c1_4 (by decide) (by decide) (by decide) (by decide) ?_
    refine V.aload_n (pc := 69) C dX4_count_69 0 rfl ?_
    refine V.getf (pc := 70) C (o := 0) (j := 4) (v := .ref 12) (by decide) rfl rfl inX4 (by decide) (by decide) wf_199 rfl dX4_count_70 ?_
    refine V.getN (pc := 73) C (o := 12) (j := 7) (v := .int (h.1 12 7)) (by decide) rfl rfl inX1 (by decide) (by decide) nw_20 rfl dX4_count_73 ?_
    exact V.iret (pc := 76) C T hs dX4_count_76
  have hs := o_el c1_4 hs
  by_cases c1_5 : x1 = (5 : Int32)
  · have hs := o_if c1_5 hs
    refine V.tin (pc := 1) C (tgt := 77) (off := 76) dX4_count_1 c1_5 (by decide) (by decide) (by decide) (by decide) ?_
    refine V.aload_n (pc := 77) C dX4_count_77 0 rfl ?_
    refine V.getf (pc := 78) C (o := 0) (j := 0) (v := .ref 1) (by decide) rfl rfl inX4 (by decide) (by decide) wf_195 rfl dX4_count_78 ?_
    refine V.getN (pc := 81) C (o := 1) (j := 2) (v := .int (h.1 1 2)) (by decide) rfl rfl inX2 (by decide) (by decide) nw_1 rfl dX4_count_81 ?_
    exact V.iret (pc := 84) C T hs dX4_count_84
  have hs := o_el c1_5 hs
  have ic1_0 : (x1).toInt ≠ 0 := fun z => c1_0 (Int32.toInt_inj.mp z)
  have ic1_1 : (x1).toInt ≠ 1 := fun z => c1_1 (Int32.toInt_inj.mp z)
  have ic1_2 : (x1).toInt ≠ 2 := fun z => c1_2 (Int32.toInt_inj.mp z)
  have ic1_3 : (x1).toInt ≠ 3 := fun z => c1_3 (Int32.toInt_inj.mp z)
  have ic1_4 : (x1).toInt ≠ 4 := fun z => c1_4 (Int32.toInt_inj.mp z)
  have ic1_5 : (x1).toInt ≠ 5 := fun z => c1_5 (Int32.toInt_inj.mp z)
  refine V.tout (pc := 1) C (tgt := 85) dX4_count_1 (by omega) (by decide) ?_
  refine V.iconst (pc := 85) C (v := (-1 : Int32)) dX4_count_85 (by decide) ?_
  exact V.iret (pc := 86) C T hs dX4_count_86
