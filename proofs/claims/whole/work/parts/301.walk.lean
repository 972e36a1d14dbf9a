abbrev rmX3_hasLine : Room := { frames := 1, cells := 0, slots := 0, locals := 22 }
set_option maxRecDepth 20000 in
theorem ct_X3_hasLine (l : Launch) {x1 : Int32} {h hf : Hp} {r : Int32} (hs : X3_hasLine x1 h = some (r, hf)) : Ct l yX3_hasLine (Cond.code yX3_hasLine cX3_hasLine 2 (some .boolean) :: wsG) rmX3_hasLine [.ref 4, .int x1] h (some (.int r)) hf := by
  refine Ct.of (by decide +kernel) (fun _ => Nat.le_of_ble_eq_true rfl) (fun k C T => ?_)
  unfold X3_hasLine at hs
  show V k rmX3_hasLine 2 0 [(0, .ref 4), (1, .int x1)] [] h
  refine V.iload_n (pc := 0) C dX3_hasLine_0 1 rfl ?_
  refine V.iconst (pc := 1) C (v := (0 : Int32)) dX3_hasLine_1 (by decide) ?_
  refine V.aload_n (pc := 2) C dX3_hasLine_2 0 rfl ?_
  refine V.getf (pc := 3) C (o := 4) (j := 2) (v := .int (h.1 4 2)) (by decide) rfl rfl inX3 (by decide) (by decide) wf_111 rfl dX3_hasLine_3 ?_
  refine V.iconst (pc := 6) C (v := (1 : Int32)) dX3_hasLine_6 (by decide) ?_
  refine V.isub (pc := 7) C dX3_hasLine_7 ?_
  obtain ⟨v2, h1, ch1, hs⟩ := o_b2 hs
  refine V.callN (pc := 8) C (rm := rmX4_within) (y := yX4_within) (bytes := cX4_within) (maxL := 3) (ret := (some .boolean)) (n := 3) (As := [.int x1, .int (0 : Int32), .int ((h.1 4 2) - (1 : Int32))]) (rest := []) (rv := (some (.int v2))) (h1 := h1) (st0 := [.int ((h.1 4 2) - (1 : Int32)), .int (0 : Int32), .int x1]) (st2 := [.int v2]) (ct_X4_within (kL k) ch1) wf_238 nw_22 wf_237 wf_49 rfl rfl (by decide +kernel) ⟨by decide, by decide⟩ rfl (Nat.le_of_ble_eq_true rfl) dX3_hasLine_8 rfl rfl ?_
  obtain ⟨zz, hs⟩ := o_zb hs
  exact V.zret (pc := 11) C T zz hs dX3_hasLine_11
abbrev rmX3_wideOf : Room := { frames := 2, cells := 0, slots := 0, locals := 43 }
set_option maxRecDepth 20000 in
theorem ct_X3_wideOf (l : Launch) {x1 : Int32} {h hf : Hp} {r : Int32} (hs : X3_wideOf x1 h = some (r, hf)) : Ct l yX3_wideOf (Cond.code yX3_wideOf cX3_wideOf 2 (some .int) :: wsG) rmX3_wideOf [.ref 4, .int x1] h (some (.int r)) hf := by
  refine Ct.of (by decide +kernel) (fun _ => Nat.le_of_ble_eq_true rfl) (fun k C T => ?_)
  unfold X3_wideOf at hs
  show V k rmX3_wideOf 2 0 [(0, .ref 4), (1, .int x1)] [] h
  refine V.aload_n (pc := 0) C dX3_wideOf_0 0 rfl ?_
  refine V.iload_n (pc := 1) C dX3_wideOf_1 1 rfl ?_
  obtain ⟨v2, h1, ch1, hs⟩ := o_b2 hs
  refine V.callV (pc := 2) C (o := 4) (rm := rmX3_hasLine) (y := yX3_hasLine) (bytes := cX3_hasLine) (maxL := 2) (ret := (some .boolean)) (n := 1) (As := [.int x1]) (rest := []) (rv := (some (.int v2))) (h1 := h1) (st0 := [.int x1, .ref 4]) (st2 := [.int v2]) (by decide) rfl rfl (ct_X3_hasLine (kL k) ch1) wf_319 wf_320 wf_321 wf_51 wf_322 rfl rfl (by decide +kernel) ⟨by decide, by decide⟩ rfl (Nat.le_of_ble_eq_true rfl) dX3_wideOf_2 rfl rfl ?_
  refine V.if_eq (pc := 5) C (tgt := 17) dX3_wideOf_5 (by decide) (fun c3 => ?_) (fun c3 => ?_)
  · have hs := o_if c3 hs
    refine V.iconst (pc := 17) C (v := (0 : Int32)) dX3_wideOf_17 (by decide) ?_
    exact V.iret (pc := 18) C T hs dX3_wideOf_18
  · have hs := o_el c3 hs
    refine V.aload_n (pc := 8) C dX3_wideOf_8 0 rfl ?_
    refine V.getf (pc := 9) C (o := 4) (j := 0) (v := .ref 5) (by decide) rfl rfl inX3 (by decide) (by decide) wf_109 rfl dX3_wideOf_9 ?_
    refine V.iload_n (pc := 12) C dX3_wideOf_12 1 rfl ?_
    obtain ⟨v4, ev4, bv4, hs⟩ := o_ld hs
    refine V.iald (pc := 13) C (o := 5) (v := v4) (by decide) rfl rfl bv4 ev4 dX3_wideOf_13 ?_
    refine V.goto (pc := 14) C (tgt := 18) dX3_wideOf_14 (by decide) ?_
    exact V.iret (pc := 18) C T hs dX3_wideOf_18
abbrev rmX1_begin : Room := { frames := 3, cells := 0, slots := 0, locals := 64 }
set_option maxRecDepth 20000 in
theorem ct_X1_begin (l : Launch) {h hf : Hp} (hs : X1_begin h = some hf) : Ct l yX1_begin (Cond.code yX1_begin cX1_begin 1 none :: wsG) rmX1_begin [.ref 12] h none hf := by
  refine Ct.of (by decide +kernel) (fun _ => Nat.le_of_ble_eq_true rfl) (fun k C T => ?_)
  unfold X1_begin at hs
  show V k rmX1_begin 1 0 [(0, .ref 12)] [] h
  refine V.aload_n (pc := 0) C dX1_begin_0 0 rfl ?_
  refine V.iconst (pc := 1) C (v := (0 : Int32)) dX1_begin_1 (by decide) ?_
  refine V.put (pc := 2) C (o := 12) (j := 1) (v := (0 : Int32)) (by decide) rfl rfl inX1 (by decide) (by decide) wf_165 tyX1 tyX1_ok nmX1 rfl rfl rfl rfl dX1_begin_2 ?_
  refine V.aload_n (pc := 5) C dX1_begin_5 0 rfl ?_
  refine V.iconst (pc := 6) C (v := (0 : Int32)) dX1_begin_6 (by decide) ?_
  refine V.put (pc := 7) C (o := 12) (j := 2) (v := (0 : Int32)) (by decide) rfl rfl inX1 (by decide) (by decide) wf_167 tyX1 tyX1_ok nmX1 rfl rfl rfl rfl dX1_begin_7 ?_
  refine V.aload_n (pc := 10) C dX1_begin_10 0 rfl ?_
  refine V.aload_n (pc := 11) C dX1_begin_11 0 rfl ?_
  refine V.getf (pc := 12) C (o := 12) (j := 0) (v := .ref 4) (by decide) rfl rfl inX1 (by decide) (by decide) wf_164 rfl dX1_begin_12 ?_
  refine V.iconst (pc := 15) C (v := (0 : Int32)) dX1_begin_15 (by decide) ?_
  obtain ⟨v2, h1, ch1, hs⟩ := o_b2 hs
  refine V.callV (pc := 16) C (o := 4) (rm := rmX3_wideOf) (y := yX3_wideOf) (bytes := cX3_wideOf) (maxL := 2) (ret := (some .int)) (n := 1) (As := [.int (0 : Int32)]) (rest := [.ref 12]) (rv := (some (.int v2))) (h1 := h1) (st0 := [.int (0 : Int32), .ref 4, .ref 12]) (st2 := [.int v2, .ref 12]) (by decide) rfl rfl (ct_X3_wideOf (kL k) ch1) wf_315 wf_316 wf_317 wf_51 wf_318 rfl rfl (by decide +kernel) ⟨by decide, by decide⟩ rfl (Nat.le_of_ble_eq_true rfl) dX1_begin_16 rfl rfl ?_
  refine V.put (pc := 19) C (o := 12) (j := 3) (v := v2) (by decide) rfl rfl inX1 (by decide) (by decide) wf_169 tyX1 tyX1_ok nmX1 rfl rfl rfl rfl dX1_begin_19 ?_
  refine V.aload_n (pc := 22) C dX1_begin_22 0 rfl ?_
  refine V.iconst (pc := 23) C (v := (5 : Int32)) dX1_begin_23 (by decide) ?_
  refine V.put (pc := 24) C (o := 12) (j := 4) (v := (5 : Int32)) (by decide) rfl rfl inX1 (by decide) (by decide) wf_171 tyX1 tyX1_ok nmX1 rfl rfl rfl rfl dX1_begin_24 ?_
  refine V.aload_n (pc := 27) C dX1_begin_27 0 rfl ?_
  refine V.iconst (pc := 28) C (v := (0 : Int32)) dX1_begin_28 (by decide) ?_
  refine V.put (pc := 29) C (o := 12) (j := 5) (v := (0 : Int32)) (by decide) rfl rfl inX1 (by decide) (by decide) wf_173 tyX1 tyX1_ok nmX1 rfl rfl rfl rfl dX1_begin_29 ?_
  refine V.aload_n (pc := 32) C dX1_begin_32 0 rfl ?_
  refine V.iconst (pc := 33) C (v := (0 : Int32)) dX1_begin_33 (by decide) ?_
  refine V.put (pc := 34) C (o := 12) (j := 7) (v := (0 : Int32)) (by decide) rfl rfl inX1 (by decide) (by decide) wf_176 tyX1 tyX1_ok nmX1 rfl rfl rfl rfl dX1_begin_34 ?_
  exact V.vret (pc := 37) C T hs dX1_begin_37
abbrev rmX4_card : Room := { frames := 5, cells := 0, slots := 0, locals := 112 }
set_option maxRecDepth 20000 in
theorem ct_X4_card (l : Launch) {h hf : Hp} {r : Int32} (hs : X4_card h = some (r, hf)) : Ct l yX4_card (Cond.code yX4_card cX4_card 2 (some .int) :: wsG) rmX4_card [.ref 0] h (some (.int r)) hf := by
  refine Ct.of (by decide +kernel) (fun _ => Nat.le_of_ble_eq_true rfl) (fun k C T => ?_)
  unfold X4_card at hs
  show V k rmX4_card 2 0 [(0, .ref 0)] [] h
  refine V.aload_n (pc := 0) C dX4_card_0 0 rfl ?_
  refine V.getf (pc := 1) C (o := 0) (j := 0) (v := .ref 1) (by decide) rfl rfl inX4 (by decide) (by decide) wf_195 rfl dX4_card_1 ?_
  refine V.aload_n (pc := 4) C dX4_card_4 0 rfl ?_
  refine V.getf (pc := 5) C (o := 0) (j := 2) (v := .ref 7) (by decide) rfl rfl inX4 (by decide) (by decide) wf_197 rfl dX4_card_5 ?_
  obtain ⟨v2, h1, ch1, hs⟩ := o_b2 hs
  refine V.callV (pc := 8) C (o := 1) (rm := rmX2_tellTo) (y := yX2_tellTo) (bytes := cX2_tellTo) (maxL := 3) (ret := (some .int)) (n := 1) (As := [.ref 7]) (rest := []) (rv := (some (.int v2))) (h1 := h1) (st0 := [.ref 7, .ref 1]) (st2 := [.int v2]) (by decide) rfl rfl (ct_X2_tellTo (kL k) ch1) wf_251 wf_252 wf_253 wf_50 wf_254 rfl rfl (by decide +kernel) ⟨by decide, by decide⟩ rfl (Nat.le_of_ble_eq_true rfl) dX4_card_8 rfl rfl ?_
  refine V.istore_n (pc := 11) C (i := 1) (lv2 := [(1, .int v2), (0, .ref 0)]) dX4_card_11 rfl (by decide) rfl ?_
  refine V.iload_n (pc := 12) C dX4_card_12 0 rfl ?_
  refine V.iconst (pc := 13) C (v := (-1 : Int32)) dX4_card_13 (by decide) ?_
  refine V.icmp_eq (pc := 14) C (tgt := 22) dX4_card_14 (by decide) (fun c3 => ?_) (fun c3 => ?_)
  · have hs := o_if c3 hs
    refine V.aload_n (pc := 22) C dX4_card_22 1 rfl ?_
    refine V.getf (pc := 23) C (o := 0) (j := 1) (v := .ref 4) (by decide) rfl rfl inX4 (by decide) (by decide) wf_196 rfl dX4_card_23 ?_
    refine V.aload_n (pc := 26) C dX4_card_26 1 rfl ?_
    refine V.getf (pc := 27) C (o := 0) (j := 2) (v := .ref 7) (by decide) rfl rfl inX4 (by decide) (by decide) wf_197 rfl dX4_card_27 ?_
    obtain ⟨h4, ch4, hs⟩ := o_bind hs
    refine V.callV (pc := 30) C (o := 4) (rm := rmX3_become) (y := yX3_become) (bytes := cX3_become) (maxL := 2) (ret := none) (n := 1) (As := [.ref 7]) (rest := []) (rv := none) (h1 := h4) (st0 := [.ref 7, .ref 4]) (st2 := []) (by decide) rfl rfl (ct_X3_become (kL k) ch4) wf_307 wf_308 wf_309 wf_51 wf_310 rfl rfl (by decide +kernel) ⟨by decide, by decide⟩ rfl (Nat.le_of_ble_eq_true rfl) dX4_card_30 rfl rfl ?_
    refine V.aload_n (pc := 33) C dX4_card_33 1 rfl ?_
    refine V.getf (pc := 34) C (o := 0) (j := 0) (v := .ref 1) (by decide) rfl rfl inX4 (by decide) (by decide) wf_195 rfl dX4_card_34 ?_
    refine V.iconst (pc := 37) C (v := (0 : Int32)) dX4_card_37 (by decide) ?_
    refine V.putN (pc := 38) C (o := 1) (j := 2) (v := (0 : Int32)) (by decide) rfl rfl inX2 (by decide) (by decide) nw_1 tyX2 tyX2_ok nmX2 rfl rfl rfl rfl dX4_card_38 ?_
    refine V.aload_n (pc := 41) C dX4_card_41 1 rfl ?_
    refine V.getf (pc := 42) C (o := 0) (j := 4) (v := .ref 12) (by decide) rfl rfl inX4 (by decide) (by decide) wf_199 rfl dX4_card_42 ?_
    obtain ⟨h5, ch5, hs⟩ := o_bind hs
    refine V.callV (pc := 45) C (o := 12) (rm := rmX1_begin) (y := yX1_begin) (bytes := cX1_begin) (maxL := 1) (ret := none) (n := 0) (As := []) (rest := []) (rv := none) (h1 := h5) (st0 := [.ref 12]) (st2 := []) (by decide) rfl rfl (ct_X1_begin (kL k) ch5) wf_311 wf_312 wf_313 wf_53 wf_314 rfl rfl (by decide +kernel) ⟨by decide, by decide⟩ rfl (Nat.le_of_ble_eq_true rfl) dX4_card_45 rfl rfl ?_
    refine V.aload_n (pc := 48) C dX4_card_48 1 rfl ?_
    refine V.iconst (pc := 49) C (v := (0 : Int32)) dX4_card_49 (by decide) ?_
    refine V.put (pc := 50) C (o := 0) (j := 7) (v := (0 : Int32)) (by decide) rfl rfl inX4 (by decide) (by decide) wf_202 tyX4 tyX4_ok nmX4 rfl rfl rfl rfl dX4_card_50 ?_
    refine V.aload_n (pc := 53) C dX4_card_53 1 rfl ?_
    refine V.iconst (pc := 54) C (v := (0 : Int32)) dX4_card_54 (by decide) ?_
    refine V.put (pc := 55) C (o := 0) (j := 10) (v := (0 : Int32)) (by decide) rfl rfl inX4 (by decide) (by decide) wf_205 tyX4 tyX4_ok nmX4 rfl rfl rfl rfl dX4_card_55 ?_
    refine V.aload_n (pc := 58) C dX4_card_58 1 rfl ?_
    refine V.getf (pc := 59) C (o := 0) (j := 0) (v := .ref 1) (by decide) rfl rfl inX4 (by decide) (by decide) wf_195 rfl dX4_card_59 ?_
    refine V.getN (pc := 62) C (o := 1) (j := 3) (v := .int (h5.1 1 3)) (by decide) rfl rfl inX2 (by decide) (by decide) nw_2 rfl dX4_card_62 ?_
    exact V.iret (pc := 65) C T hs dX4_card_65
  · have hs := o_el c3 hs
    refine V.bipush (pc := 17) C (v := (-10 : Int32)) dX4_card_17 (by decide) ?_
    refine V.iload_n (pc := 19) C dX4_card_19 0 rfl ?_
    refine V.isub (pc := 20) C dX4_card_20 ?_
    exact V.iret (pc := 21) C T hs dX4_card_21
abbrev rmX4_line : Room := { frames := 3, cells := 0, slots := 0, locals := 64 }
set_option maxRecDepth 20000 in
theorem ct_X4_line (l : Launch) {x1 : Int32} {h hf : Hp} {r : Int32} (hs : X4_line x1 h = some (r, hf)) : Ct l yX4_line (Cond.code yX4_line cX4_line 2 (some .int) :: wsG) rmX4_line [.ref 0, .int x1] h (some (.int r)) hf := by
  refine Ct.of (by decide +kernel) (fun _ => Nat.le_of_ble_eq_true rfl) (fun k C T => ?_)
  unfold X4_line at hs
  show V k rmX4_line 2 0 [(0, .ref 0), (1, .int x1)] [] h
  refine V.aload_n (pc := 0) C dX4_line_0 0 rfl ?_
  refine V.getf (pc := 1) C (o := 0) (j := 1) (v := .ref 4) (by decide) rfl rfl inX4 (by decide) (by decide) wf_196 rfl dX4_line_1 ?_
  refine V.iload_n (pc := 4) C dX4_line_4 1 rfl ?_
  obtain ⟨v2, h1, ch1, hs⟩ := o_b2 hs
  refine V.callV (pc := 5) C (o := 4) (rm := rmX3_hasLine) (y := yX3_hasLine) (bytes := cX3_hasLine) (maxL := 2) (ret := (some .boolean)) (n := 1) (As := [.int x1]) (rest := []) (rv := (some (.int v2))) (h1 := h1) (st0 := [.int x1, .ref 4]) (st2 := [.int v2]) (by decide) rfl rfl (ct_X3_hasLine (kL k) ch1) wf_327 wf_320 wf_321 wf_51 wf_322 rfl rfl (by decide +kernel) ⟨by decide, by decide⟩ rfl (Nat.le_of_ble_eq_true rfl) dX4_line_5 rfl rfl ?_
  refine V.if_eq (pc := 8) C (tgt := 22) dX4_line_8 (by decide) (fun c3 => ?_) (fun c3 => ?_)
  · have hs := o_if c3 hs
    refine V.iconst (pc := 22) C (v := (-1 : Int32)) dX4_line_22 (by decide) ?_
    exact V.iret (pc := 23) C T hs dX4_line_23
  · have hs := o_el c3 hs
    refine V.aload_n (pc := 11) C dX4_line_11 0 rfl ?_
    refine V.getf (pc := 12) C (o := 0) (j := 1) (v := .ref 4) (by decide) rfl rfl inX4 (by decide) (by decide) wf_196 rfl dX4_line_12 ?_
    refine V.iload_n (pc := 15) C dX4_line_15 1 rfl ?_
    obtain ⟨v5, h4, ch4, hs⟩ := o_b2 hs
    refine V.callV (pc := 16) C (o := 4) (rm := rmX3_wideOf) (y := yX3_wideOf) (bytes := cX3_wideOf) (maxL := 2) (ret := (some .int)) (n := 1) (As := [.int x1]) (rest := []) (rv := (some (.int v5))) (h1 := h4) (st0 := [.int x1, .ref 4]) (st2 := [.int v5]) (by decide) rfl rfl (ct_X3_wideOf (kL k) ch4) wf_328 wf_316 wf_317 wf_51 wf_318 rfl rfl (by decide +kernel) ⟨by decide, by decide⟩ rfl (Nat.le_of_ble_eq_true rfl) dX4_line_16 rfl rfl ?_
    refine V.goto (pc := 19) C (tgt := 23) dX4_line_19 (by decide) ?_
    exact V.iret (pc := 23) C T hs dX4_line_23
abbrev rmX3_hasPiece : Room := { frames := 1, cells := 0, slots := 0, locals := 22 }
set_option maxRecDepth 20000 in
theorem ct_X3_hasPiece (l : Launch) {x1 : Int32} {h hf : Hp} {r : Int32} (hs : X3_hasPiece x1 h = some (r, hf)) : Ct l yX3_hasPiece (Cond.code yX3_hasPiece cX3_hasPiece 2 (some .boolean) :: wsG) rmX3_hasPiece [.ref 4, .int x1] h (some (.int r)) hf := by
  refine Ct.of (by decide +kernel) (fun _ => Nat.le_of_ble_eq_true rfl) (fun k C T => ?_)
  unfold X3_hasPiece at hs
  show V k rmX3_hasPiece 2 0 [(0, .ref 4), (1, .int x1)] [] h
  refine V.iload_n (pc := 0) C dX3_hasPiece_0 1 rfl ?_
  refine V.iconst (pc := 1) C (v := (0 : Int32)) dX3_hasPiece_1 (by decide) ?_
  refine V.aload_n (pc := 2) C dX3_hasPiece_2 0 rfl ?_
  refine V.getf (pc := 3) C (o := 4) (j := 3) (v := .int (h.1 4 3)) (by decide) rfl rfl inX3 (by decide) (by decide) wf_116 rfl dX3_hasPiece_3 ?_
  refine V.iconst (pc := 6) C (v := (1 : Int32)) dX3_hasPiece_6 (by decide) ?_
  refine V.isub (pc := 7) C dX3_hasPiece_7 ?_
  obtain ⟨v2, h1, ch1, hs⟩ := o_b2 hs
  refine V.callN (pc := 8) C (rm := rmX4_within) (y := yX4_within) (bytes := cX4_within) (maxL := 3) (ret := (some .boolean)) (n := 3) (As := [.int x1, .int (0 : Int32), .int ((h.1 4 3) - (1 : Int32))]) (rest := []) (rv := (some (.int v2))) (h1 := h1) (st0 := [.int ((h.1 4 3) - (1 : Int32)), .int (0 : Int32), .int x1]) (st2 := [.int v2]) (ct_X4_within (kL k) ch1) wf_238 nw_22 wf_237 wf_49 rfl rfl (by decide +kernel) ⟨by decide, by decide⟩ rfl (Nat.le_of_ble_eq_true rfl) dX3_hasPiece_8 rfl rfl ?_
  obtain ⟨zz, hs⟩ := o_zb hs
  exact V.zret (pc := 11) C T zz hs dX3_hasPiece_11
abbrev rmX4_bit : Room := { frames := 0, cells := 0, slots := 0, locals := 0 }
set_option maxRecDepth 20000 in
theorem ct_X4_bit (l : Launch) {x0 : Int32} {x1 : Int32} {h hf : Hp} {r : Int32} (hs : X4_bit x0 x1 h = some (r, hf)) : Ct l yX4_bit (Cond.code yX4_bit cX4_bit 2 (some .int) :: wsG) rmX4_bit [.int x0, .int x1] h (some (.int r)) hf := by
  refine Ct.of (by decide +kernel) (fun _ => Nat.le_of_ble_eq_true rfl) (fun k C T => ?_)
  unfold X4_bit at hs
  show V k rmX4_bit 2 0 [(0, .int x0), (1, .int x1)] [] h
  refine V.iload_n (pc := 0) C dX4_bit_0 0 rfl ?_
  refine V.iload_n (pc := 1) C dX4_bit_1 1 rfl ?_
  refine V.ishr (pc := 2) C dX4_bit_2 ?_
  refine V.iconst (pc := 3) C (v := (1 : Int32)) dX4_bit_3 (by decide) ?_
  refine V.iand (pc := 4) C dX4_bit_4 ?_
  exact V.iret (pc := 5) C T hs dX4_bit_5
abbrev rmX3_of : Room := { frames := 2, cells := 0, slots := 0, locals := 43 }
set_option maxRecDepth 20000 in
theorem ct_X3_of (l : Launch) {x1 : Int32} {x2 : Int32} {h hf : Hp} {r : Int32} (hs : X3_of x1 x2 h = some (r, hf)) : Ct l yX3_of (Cond.code yX3_of cX3_of 3 (some .int) :: wsG) rmX3_of [.ref 4, .int x1, .int x2] h (some (.int r)) hf := by
  refine Ct.of (by decide +kernel) (fun _ => Nat.le_of_ble_eq_true rfl) (fun k C T => ?_)
  unfold X3_of at hs
  show V k rmX3_of 3 0 [(0, .ref 4), (1, .int x1), (2, .int x2)] [] h
  refine V.aload_n (pc := 0) C dX3_of_0 0 rfl ?_
  refine V.iload_n (pc := 1) C dX3_of_1 1 rfl ?_
  obtain ⟨v2, h1, ch1, hs⟩ := o_b2 hs
  refine V.callV (pc := 2) C (o := 4) (rm := rmX3_hasPiece) (y := yX3_hasPiece) (bytes := cX3_hasPiece) (maxL := 2) (ret := (some .boolean)) (n := 1) (As := [.int x1]) (rest := []) (rv := (some (.int v2))) (h1 := h1) (st0 := [.int x1, .ref 4]) (st2 := [.int v2]) (by decide) rfl rfl (ct_X3_hasPiece (kL k) ch1) wf_338 wf_288 wf_289 wf_51 wf_290 rfl rfl (by decide +kernel) ⟨by decide, by decide⟩ rfl (Nat.le_of_ble_eq_true rfl) dX3_of_2 rfl rfl ?_
  refine V.if_eq (pc := 5) C (tgt := 30) dX3_of_5 (by decide) (fun c3 => ?_) (fun c3 => ?_)
  · have hs := o_if c3 hs
    refine V.iconst (pc := 30) C (v := (0 : Int32)) dX3_of_30 (by decide) ?_
    exact V.iret (pc := 31) C T hs dX3_of_31
  · have hs := o_el c3 hs
    refine V.iload_n (pc := 8) C dX3_of_8 2 rfl ?_
    refine V.iconst (pc := 9) C (v := (0 : Int32)) dX3_of_9 (by decide) ?_
    refine V.iconst (pc := 10) C (v := (4 : Int32)) dX3_of_10 (by decide) ?_
    obtain ⟨v5, h4, ch4, hs⟩ := o_b2 hs
    refine V.callN (pc := 11) C (rm := rmX4_within) (y := yX4_within) (bytes := cX4_within) (maxL := 3) (ret := (some .boolean)) (n := 3) (As := [.int x2, .int (0 : Int32), .int (4 : Int32)]) (rest := []) (rv := (some (.int v5))) (h1 := h4) (st0 := [.int (4 : Int32), .int (0 : Int32), .int x2]) (st2 := [.int v5]) (ct_X4_within (kL k) ch4) wf_238 nw_22 wf_237 wf_49 rfl rfl (by decide +kernel) ⟨by decide, by decide⟩ rfl (Nat.le_of_ble_eq_true rfl) dX3_of_11 rfl rfl ?_
    refine V.if_eq (pc := 14) C (tgt := 30) dX3_of_14 (by decide) (fun c6 => ?_) (fun c6 => ?_)
    · have hs := o_if c6 hs
      refine V.iconst (pc := 30) C (v := (0 : Int32)) dX3_of_30 (by decide) ?_
      exact V.iret (pc := 31) C T hs dX3_of_31
    · have hs := o_el c6 hs
      refine V.aload_n (pc := 17) C dX3_of_17 0 rfl ?_
      refine V.getf (pc := 18) C (o := 4) (j := 1) (v := .ref 6) (by decide) rfl rfl inX3 (by decide) (by decide) wf_110 rfl dX3_of_18 ?_
      refine V.iload_n (pc := 21) C dX3_of_21 1 rfl ?_
      refine V.iconst (pc := 22) C (v := (5 : Int32)) dX3_of_22 (by decide) ?_
      refine V.imul (pc := 23) C dX3_of_23 ?_
      refine V.iload_n (pc := 24) C dX3_of_24 2 rfl ?_
      refine V.iadd (pc := 25) C dX3_of_25 ?_
      obtain ⟨v7, ev7, bv7, hs⟩ := o_ld hs
      refine V.iald (pc := 26) C (o := 6) (v := v7) (by decide) rfl rfl bv7 ev7 dX3_of_26 ?_
      refine V.goto (pc := 27) C (tgt := 31) dX3_of_27 (by decide) ?_
      exact V.iret (pc := 31) C T hs dX3_of_31
abbrev rmX4_word : Room := { frames := 3, cells := 0, slots := 0, locals := 65 }
set_option maxRecDepth 20000 in
theorem ct_X4_word (l : Launch) {x1 : Int32} {x2 : Int32} {h hf : Hp} {r : Int32} (hs : X4_word x1 x2 h = some (r, hf)) : Ct l yX4_word (Cond.code yX4_word cX4_word 3 (some .int) :: wsG) rmX4_word [.ref 0, .int x1, .int x2] h (some (.int r)) hf := by
  refine Ct.of (by decide +kernel) (fun _ => Nat.le_of_ble_eq_true rfl) (fun k C T => ?_)
  unfold X4_word at hs
  show V k rmX4_word 3 0 [(0, .ref 0), (1, .int x1), (2, .int x2)] [] h
  refine V.aload_n (pc := 0) C dX4_word_0 0 rfl ?_
  refine V.getf (pc := 1) C (o := 0) (j := 1) (v := .ref 4) (by decide) rfl rfl inX4 (by decide) (by decide) wf_196 rfl dX4_word_1 ?_
  refine V.iload_n (pc := 4) C dX4_word_4 1 rfl ?_
  obtain ⟨v2, h1, ch1, hs⟩ := o_b2 hs
  refine V.callV (pc := 5) C (o := 4) (rm := rmX3_hasPiece) (y := yX3_hasPiece) (bytes := cX3_hasPiece) (maxL := 2) (ret := (some .boolean)) (n := 1) (As := [.int x1]) (rest := []) (rv := (some (.int v2))) (h1 := h1) (st0 := [.int x1, .ref 4]) (st2 := [.int v2]) (by decide) rfl rfl (ct_X3_hasPiece (kL k) ch1) wf_333 wf_288 wf_289 wf_51 wf_290 rfl rfl (by decide +kernel) ⟨by decide, by decide⟩ rfl (Nat.le_of_ble_eq_true rfl) dX4_word_5 rfl rfl ?_
  refine V.if_eq (pc := 8) C (tgt := 20) dX4_word_8 (by decide) (fun c3 => ?_) (fun c3 => ?_)
  · have hs := o_if c3 hs
    refine V.iconst (pc := 20) C (v := (-1 : Int32)) dX4_word_20 (by decide) ?_
    exact V.iret (pc := 21) C T hs dX4_word_21
  · have hs := o_el c3 hs
    refine V.iload_n (pc := 11) C dX4_word_11 2 rfl ?_
    refine V.iconst (pc := 12) C (v := (0 : Int32)) dX4_word_12 (by decide) ?_
    refine V.iconst (pc := 13) C (v := (5 : Int32)) dX4_word_13 (by decide) ?_
    obtain ⟨v5, h4, ch4, hs⟩ := o_b2 hs
    refine V.callS (pc := 14) C (rm := rmX4_within) (y := yX4_within) (bytes := cX4_within) (maxL := 3) (ret := (some .boolean)) (n := 3) (As := [.int x2, .int (0 : Int32), .int (5 : Int32)]) (rest := []) (rv := (some (.int v5))) (h1 := h4) (st0 := [.int (5 : Int32), .int (0 : Int32), .int x2]) (st2 := [.int v5]) (ct_X4_within (kL k) ch4) wf_236 wf_237 wf_49 wf_238 rfl rfl (by decide +kernel) ⟨by decide, by decide⟩ rfl (Nat.le_of_ble_eq_true rfl) dX4_word_14 rfl rfl ?_
    refine V.if_ne (pc := 17) C (tgt := 22) dX4_word_17 (by decide) (fun c6 => ?_) (fun c6 => ?_)
    · have hs := o_el c6 hs
      refine V.iload_n (pc := 22) C dX4_word_22 2 rfl ?_
      refine V.iconst (pc := 23) C (v := (5 : Int32)) dX4_word_23 (by decide) ?_
      refine V.icmp_ge (pc := 24) C (tgt := 39) dX4_word_24 (by decide) (fun c7 => ?_) (fun c7 => ?_)
      · have hs := o_if c7 hs
        refine V.aload_n (pc := 39) C dX4_word_39 0 rfl ?_
        refine V.getf (pc := 40) C (o := 0) (j := 4) (v := .ref 12) (by decide) rfl rfl inX4 (by decide) (by decide) wf_199 rfl dX4_word_40 ?_
        refine V.getN (pc := 43) C (o := 12) (j := 5) (v := .int (h4.1 12 5)) (by decide) rfl rfl inX1 (by decide) (by decide) nw_19 rfl dX4_word_43 ?_
        refine V.iload_n (pc := 46) C dX4_word_46 1 rfl ?_
        obtain ⟨v9, h8, ch8, hs⟩ := o_b2 hs
        refine V.callS (pc := 47) C (rm := rmX4_bit) (y := yX4_bit) (bytes := cX4_bit) (maxL := 2) (ret := (some .int)) (n := 2) (As := [.int (h4.1 12 5), .int x1]) (rest := []) (rv := (some (.int v9))) (h1 := h8) (st0 := [.int x1, .int (h4.1 12 5)]) (st2 := [.int v9]) (ct_X4_bit (kL k) ch8) wf_339 wf_340 wf_49 wf_341 rfl rfl (by decide +kernel) ⟨by decide, by decide⟩ rfl (Nat.le_of_ble_eq_true rfl) dX4_word_47 rfl rfl ?_
        exact V.iret (pc := 50) C T hs dX4_word_50
      · have hs := o_el c7 hs
        refine V.aload_n (pc := 27) C dX4_word_27 0 rfl ?_
        refine V.getf (pc := 28) C (o := 0) (j := 1) (v := .ref 4) (by decide) rfl rfl inX4 (by decide) (by decide) wf_196 rfl dX4_word_28 ?_
        refine V.iload_n (pc := 31) C dX4_word_31 1 rfl ?_
        refine V.iload_n (pc := 32) C dX4_word_32 2 rfl ?_
        obtain ⟨v11, h10, ch10, hs⟩ := o_b2 hs
        refine V.callV (pc := 33) C (o := 4) (rm := rmX3_of) (y := yX3_of) (bytes := cX3_of) (maxL := 3) (ret := (some .int)) (n := 2) (As := [.int x1, .int x2]) (rest := []) (rv := (some (.int v11))) (h1 := h10) (st0 := [.int x2, .int x1, .ref 4]) (st2 := [.int v11]) (by decide) rfl rfl (ct_X3_of (kL k) ch10) wf_334 wf_335 wf_336 wf_51 wf_337 rfl rfl (by decide +kernel) ⟨by decide, by decide⟩ rfl (Nat.le_of_ble_eq_true rfl) dX4_word_33 rfl rfl ?_
        refine V.goto (pc := 36) C (tgt := 50) dX4_word_36 (by decide) ?_
        exact V.iret (pc := 50) C T hs dX4_word_50
    · have hs := o_if c6 hs
      refine V.iconst (pc := 20) C (v := (-1 : Int32)) dX4_word_20 (by decide) ?_
      exact V.iret (pc := 21) C T hs dX4_word_21
abbrev rmX1_hasNext : Room := { frames := 2, cells := 0, slots := 0, locals := 43 }
set_option maxRecDepth 20000 in
theorem ct_X1_hasNext (l : Launch) {h hf : Hp} {r : Int32} (hs : X1_hasNext h = some (r, hf)) : Ct l yX1_hasNext (Cond.code yX1_hasNext cX1_hasNext 1 (some .boolean) :: wsG) rmX1_hasNext [.ref 12] h (some (.int r)) hf := by
  refine Ct.of (by decide +kernel) (fun _ => Nat.le_of_ble_eq_true rfl) (fun k C T => ?_)
  unfold X1_hasNext at hs
  show V k rmX1_hasNext 1 0 [(0, .ref 12)] [] h
  refine V.aload_n (pc := 0) C dX1_hasNext_0 0 rfl ?_
  refine V.getf (pc := 1) C (o := 12) (j := 0) (v := .ref 4) (by decide) rfl rfl inX1 (by decide) (by decide) wf_164 rfl dX1_hasNext_1 ?_
  refine V.aload_n (pc := 4) C dX1_hasNext_4 0 rfl ?_
  refine V.getf (pc := 5) C (o := 12) (j := 1) (v := .int (h.1 12 1)) (by decide) rfl rfl inX1 (by decide) (by decide) wf_165 rfl dX1_hasNext_5 ?_
  obtain ⟨v2, h1, ch1, hs⟩ := o_b2 hs
  refine V.callV (pc := 8) C (o := 4) (rm := rmX3_hasPiece) (y := yX3_hasPiece) (bytes := cX3_hasPiece) (maxL := 2) (ret := (some .boolean)) (n := 1) (As := [.int (h.1 12 1)]) (rest := []) (rv := (some (.int v2))) (h1 := h1) (st0 := [.int (h.1 12 1), .ref 4]) (st2 := [.int v2]) (by decide) rfl rfl (ct_X3_hasPiece (kL k) ch1) wf_354 wf_288 wf_289 wf_51 wf_290 rfl rfl (by decide +kernel) ⟨by decide, by decide⟩ rfl (Nat.le_of_ble_eq_true rfl) dX1_hasNext_8 rfl rfl ?_
  obtain ⟨zz, hs⟩ := o_zb hs
  exact V.zret (pc := 11) C T zz hs dX1_hasNext_11
abbrev rmX1_canWrite : Room := { frames := 3, cells := 0, slots := 0, locals := 63 }
set_option maxRecDepth 20000 in
theorem ct_X1_canWrite (l : Launch) {h hf : Hp} {r : Int32} (hs : X1_canWrite h = some (r, hf)) : Ct l yX1_canWrite (Cond.code yX1_canWrite cX1_canWrite 1 (some .boolean) :: wsG) rmX1_canWrite [.ref 12] h (some (.int r)) hf := by
  refine Ct.of (by decide +kernel) (fun _ => Nat.le_of_ble_eq_true rfl) (fun k C T => ?_)
  unfold X1_canWrite at hs
  show V k rmX1_canWrite 1 0 [(0, .ref 12)] [] h
  refine V.aload_n (pc := 0) C dX1_canWrite_0 0 rfl ?_
  obtain ⟨v2, h1, ch1, hs⟩ := o_b2 hs
  refine V.callV (pc := 1) C (o := 12) (rm := rmX1_hasNext) (y := yX1_hasNext) (bytes := cX1_hasNext) (maxL := 1) (ret := (some .boolean)) (n := 0) (As := []) (rest := []) (rv := (some (.int v2))) (h1 := h1) (st0 := [.ref 12]) (st2 := [.int v2]) (by decide) rfl rfl (ct_X1_hasNext (kL k) ch1) wf_350 wf_351 wf_352 wf_53 wf_353 rfl rfl (by decide +kernel) ⟨by decide, by decide⟩ rfl (Nat.le_of_ble_eq_true rfl) dX1_canWrite_1 rfl rfl ?_
  refine V.if_eq (pc := 4) C (tgt := 21) dX1_canWrite_4 (by decide) (fun c3 => ?_) (fun c3 => ?_)
  · have hs := o_if c3 hs
    refine V.iconst (pc := 21) C (v := (0 : Int32)) dX1_canWrite_21 (by decide) ?_
    exact V.zret (pc := 22) C T (by decide) hs dX1_canWrite_22
  · have hs := o_el c3 hs
    refine V.aload_n (pc := 7) C dX1_canWrite_7 0 rfl ?_
    refine V.getf (pc := 8) C (o := 12) (j := 0) (v := .ref 4) (by decide) rfl rfl inX1 (by decide) (by decide) wf_164 rfl dX1_canWrite_8 ?_
    refine V.getN (pc := 11) C (o := 4) (j := 2) (v := .int (h1.1 4 2)) (by decide) rfl rfl inX3 (by decide) (by decide) nw_6 rfl dX1_canWrite_11 ?_
    refine V.if_le (pc := 14) C (tgt := 21) dX1_canWrite_14 (by decide) (fun c4 => ?_) (fun c4 => ?_)
    · have hs := o_if c4 hs
      refine V.iconst (pc := 21) C (v := (0 : Int32)) dX1_canWrite_21 (by decide) ?_
      exact V.zret (pc := 22) C T (by decide) hs dX1_canWrite_22
    · have hs := o_el c4 hs
      refine V.iconst (pc := 17) C (v := (1 : Int32)) dX1_canWrite_17 (by decide) ?_
      refine V.goto (pc := 18) C (tgt := 22) dX1_canWrite_18 (by decide) ?_
      exact V.zret (pc := 22) C T (by decide) hs dX1_canWrite_22
abbrev rmX1_blank : Room := { frames := 3, cells := 0, slots := 0, locals := 64 }
set_option maxRecDepth 20000 in
theorem ct_X1_blank (l : Launch) {h hf : Hp} {r : Int32} (hs : X1_blank h = some (r, hf)) : Ct l yX1_blank (Cond.code yX1_blank cX1_blank 1 (some .int) :: wsG) rmX1_blank [.ref 12] h (some (.int r)) hf := by
  refine Ct.of (by decide +kernel) (fun _ => Nat.le_of_ble_eq_true rfl) (fun k C T => ?_)
  unfold X1_blank at hs
  show V k rmX1_blank 1 0 [(0, .ref 12)] [] h
  refine V.aload_n (pc := 0) C dX1_blank_0 0 rfl ?_
  refine V.getf (pc := 1) C (o := 12) (j := 3) (v := .int (h.1 12 3)) (by decide) rfl rfl inX1 (by decide) (by decide) wf_169 rfl dX1_blank_1 ?_
  refine V.aload_n (pc := 4) C dX1_blank_4 0 rfl ?_
  refine V.getf (pc := 5) C (o := 12) (j := 0) (v := .ref 4) (by decide) rfl rfl inX1 (by decide) (by decide) wf_164 rfl dX1_blank_5 ?_
  refine V.aload_n (pc := 8) C dX1_blank_8 0 rfl ?_
  refine V.getf (pc := 9) C (o := 12) (j := 2) (v := .int (h.1 12 2)) (by decide) rfl rfl inX1 (by decide) (by decide) wf_167 rfl dX1_blank_9 ?_
  obtain ⟨v2, h1, ch1, hs⟩ := o_b2 hs
  refine V.callV (pc := 12) C (o := 4) (rm := rmX3_wideOf) (y := yX3_wideOf) (bytes := cX3_wideOf) (maxL := 2) (ret := (some .int)) (n := 1) (As := [.int (h.1 12 2)]) (rest := [.int (h.1 12 3)]) (rv := (some (.int v2))) (h1 := h1) (st0 := [.int (h.1 12 2), .ref 4, .int (h.1 12 3)]) (st2 := [.int v2, .int (h.1 12 3)]) (by decide) rfl rfl (ct_X3_wideOf (kL k) ch1) wf_315 wf_316 wf_317 wf_51 wf_318 rfl rfl (by decide +kernel) ⟨by decide, by decide⟩ rfl (Nat.le_of_ble_eq_true rfl) dX1_blank_12 rfl rfl ?_
  refine V.icmp_ne (pc := 15) C (tgt := 22) dX1_blank_15 (by decide) (fun c3 => ?_) (fun c3 => ?_)
  · have hs := o_el c3 hs
    refine V.iconst (pc := 22) C (v := (1 : Int32)) dX1_blank_22 (by decide) ?_
    exact V.iret (pc := 23) C T hs dX1_blank_23
  · have hs := o_if c3 hs
    refine V.iconst (pc := 18) C (v := (0 : Int32)) dX1_blank_18 (by decide) ?_
    refine V.goto (pc := 19) C (tgt := 23) dX1_blank_19 (by decide) ?_
    exact V.iret (pc := 23) C T hs dX1_blank_23
abbrev rmX1_remember : Room := { frames := 1, cells := 0, slots := 0, locals := 38 }
set_option maxRecDepth 20000 in
theorem tb_X1_remember_34 {k : KX} (C : Cx k cX1_remember RX1 2 rmX1_remember) {hf : Hp} (T : Rx k none none hf) (h : Hp) (hs : X1_remember_b34 h = some hf) : V k rmX1_remember 2 34 [(0, .ref 12)] [] h := by
  unfold X1_remember_b34 at hs
  refine V.aload_n (pc := 34) C dX1_remember_34 0 rfl ?_
  refine V.getf (pc := 35) C (o := 12) (j := 7) (v := .int (h.1 12 7)) (by decide) rfl rfl inX1 (by decide) (by decide) wf_176 rfl dX1_remember_35 ?_
  refine V.iconst (pc := 38) C (v := (5 : Int32)) dX1_remember_38 (by decide) ?_
  refine V.imul (pc := 39) C dX1_remember_39 ?_
  refine V.istore_n (pc := 40) C (i := 1) (lv2 := [(1, .int ((h.1 12 7) * (5 : Int32))), (0, .ref 12)]) dX1_remember_40 rfl (by decide) rfl ?_
  refine V.aload_n (pc := 41) C dX1_remember_41 1 rfl ?_
  refine V.getf (pc := 42) C (o := 12) (j := 6) (v := .ref 13) (by decide) rfl rfl inX1 (by decide) (by decide) wf_175 rfl dX1_remember_42 ?_
  refine V.iload_n (pc := 45) C dX1_remember_45 0 rfl ?_
  refine V.aload_n (pc := 46) C dX1_remember_46 1 rfl ?_
  refine V.getf (pc := 47) C (o := 12) (j := 1) (v := .int (h.1 12 1)) (by decide) rfl rfl inX1 (by decide) (by decide) wf_165 rfl dX1_remember_47 ?_
  obtain ⟨h3, eh3, bh3, hs⟩ := o_st hs
  refine V.iast (pc := 50) C (o := 13) (h2 := h3) (by decide) rfl rfl bh3 eh3 dX1_remember_50 ?_
  refine V.aload_n (pc := 51) C dX1_remember_51 1 rfl ?_
  refine V.getf (pc := 52) C (o := 12) (j := 6) (v := .ref 13) (by decide) rfl rfl inX1 (by decide) (by decide) wf_175 rfl dX1_remember_52 ?_
  refine V.iload_n (pc := 55) C dX1_remember_55 0 rfl ?_
  refine V.iconst (pc := 56) C (v := (1 : Int32)) dX1_remember_56 (by decide) ?_
  refine V.iadd (pc := 57) C dX1_remember_57 ?_
  refine V.aload_n (pc := 58) C dX1_remember_58 1 rfl ?_
  refine V.getf (pc := 59) C (o := 12) (j := 2) (v := .int (h3.1 12 2)) (by decide) rfl rfl inX1 (by decide) (by decide) wf_167 rfl dX1_remember_59 ?_
  obtain ⟨h4, eh4, bh4, hs⟩ := o_st hs
  refine V.iast (pc := 62) C (o := 13) (h2 := h4) (by decide) rfl rfl bh4 eh4 dX1_remember_62 ?_
  refine V.aload_n (pc := 63) C dX1_remember_63 1 rfl ?_
  refine V.getf (pc := 64) C (o := 12) (j := 6) (v := .ref 13) (by decide) rfl rfl inX1 (by decide) (by decide) wf_175 rfl dX1_remember_64 ?_
  refine V.iload_n (pc := 67) C dX1_remember_67 0 rfl ?_
  refine V.iconst (pc := 68) C (v := (2 : Int32)) dX1_remember_68 (by decide) ?_
  refine V.iadd (pc := 69) C dX1_remember_69 ?_
  refine V.aload_n (pc := 70) C dX1_remember_70 1 rfl ?_
  refine V.getf (pc := 71) C (o := 12) (j := 3) (v := .int (h4.1 12 3)) (by decide) rfl rfl inX1 (by decide) (by decide) wf_169 rfl dX1_remember_71 ?_
  obtain ⟨h5, eh5, bh5, hs⟩ := o_st hs
  refine V.iast (pc := 74) C (o := 13) (h2 := h5) (by decide) rfl rfl bh5 eh5 dX1_remember_74 ?_
  refine V.aload_n (pc := 75) C dX1_remember_75 1 rfl ?_
  refine V.getf (pc := 76) C (o := 12) (j := 6) (v := .ref 13) (by decide) rfl rfl inX1 (by decide) (by decide) wf_175 rfl dX1_remember_76 ?_
  refine V.iload_n (pc := 79) C dX1_remember_79 0 rfl ?_
  refine V.iconst (pc := 80) C (v := (3 : Int32)) dX1_remember_80 (by decide) ?_
  refine V.iadd (pc := 81) C dX1_remember_81 ?_
  refine V.aload_n (pc := 82) C dX1_remember_82 1 rfl ?_
  refine V.getf (pc := 83) C (o := 12) (j := 4) (v := .int (h5.1 12 4)) (by decide) rfl rfl inX1 (by decide) (by decide) wf_171 rfl dX1_remember_83 ?_
  obtain ⟨h6, eh6, bh6, hs⟩ := o_st hs
  refine V.iast (pc := 86) C (o := 13) (h2 := h6) (by decide) rfl rfl bh6 eh6 dX1_remember_86 ?_
  refine V.aload_n (pc := 87) C dX1_remember_87 1 rfl ?_
  refine V.getf (pc := 88) C (o := 12) (j := 6) (v := .ref 13) (by decide) rfl rfl inX1 (by decide) (by decide) wf_175 rfl dX1_remember_88 ?_
  refine V.iload_n (pc := 91) C dX1_remember_91 0 rfl ?_
  refine V.iconst (pc := 92) C (v := (4 : Int32)) dX1_remember_92 (by decide) ?_
  refine V.iadd (pc := 93) C dX1_remember_93 ?_
  refine V.aload_n (pc := 94) C dX1_remember_94 1 rfl ?_
  refine V.getf (pc := 95) C (o := 12) (j := 5) (v := .int (h6.1 12 5)) (by decide) rfl rfl inX1 (by decide) (by decide) wf_173 rfl dX1_remember_95 ?_
  obtain ⟨h7, eh7, bh7, hs⟩ := o_st hs
  refine V.iast (pc := 98) C (o := 13) (h2 := h7) (by decide) rfl rfl bh7 eh7 dX1_remember_98 ?_
  refine V.aload_n (pc := 99) C dX1_remember_99 1 rfl ?_
  refine V.dup (pc := 100) C dX1_remember_100 rfl ?_
  refine V.getf (pc := 101) C (o := 12) (j := 7) (v := .int (h7.1 12 7)) (by decide) rfl rfl inX1 (by decide) (by decide) wf_176 rfl dX1_remember_101 ?_
  refine V.iconst (pc := 104) C (v := (1 : Int32)) dX1_remember_104 (by decide) ?_
  refine V.iadd (pc := 105) C dX1_remember_105 ?_
  refine V.put (pc := 106) C (o := 12) (j := 7) (v := ((h7.1 12 7) + (1 : Int32))) (by decide) rfl rfl inX1 (by decide) (by decide) wf_176 tyX1 tyX1_ok nmX1 rfl rfl rfl rfl dX1_remember_106 ?_
  exact V.vret (pc := 109) C T hs dX1_remember_109
set_option maxRecDepth 20000 in
theorem ct_X1_remember (l : Launch) {h hf : Hp} (hs : X1_remember h = some hf) : Ct l yX1_remember (Cond.code yX1_remember cX1_remember 2 none :: wsG) rmX1_remember [.ref 12] h none hf := by
  refine Ct.of (by decide +kernel) (fun _ => Nat.le_of_ble_eq_true rfl) (fun k C T => ?_)
  unfold X1_remember at hs
  show V k rmX1_remember 2 0 [(0, .ref 12)] [] h
  refine V.aload_n (pc := 0) C dX1_remember_0 0 rfl ?_
  refine V.getf (pc := 1) C (o := 12) (j := 7) (v := .int (h.1 12 7)) (by decide) rfl rfl inX1 (by decide) (by decide) wf_176 rfl dX1_remember_1 ?_
  refine V.bipush (pc := 4) C (v := (12 : Int32)) dX1_remember_4 (by decide) ?_
  refine V.icmp_lt (pc := 6) C (tgt := 34) dX1_remember_6 (by decide) (fun c1 => ?_) (fun c1 => ?_)
  · have hs := o_if c1 hs
    refine V.sub [0] rfl ?_
    exact tb_X1_remember_34 C T  _ hs
  · have hs := o_el c1 hs
    refine V.aload_n (pc := 9) C dX1_remember_9 0 rfl ?_
    refine V.bipush (pc := 10) C (v := (11 : Int32)) dX1_remember_10 (by decide) ?_
    refine V.put (pc := 12) C (o := 12) (j := 7) (v := (11 : Int32)) (by decide) rfl rfl inX1 (by decide) (by decide) wf_176 tyX1 tyX1_ok nmX1 rfl rfl rfl rfl dX1_remember_12 ?_
    refine V.aload_n (pc := 15) C dX1_remember_15 0 rfl ?_
    refine V.getf (pc := 16) C (o := 12) (j := 6) (v := .ref 13) (by decide) rfl rfl inX1 (by decide) (by decide) wf_175 rfl dX1_remember_16 ?_
    refine V.iconst (pc := 19) C (v := (5 : Int32)) dX1_remember_19 (by decide) ?_
    refine V.aload_n (pc := 20) C dX1_remember_20 0 rfl ?_
    refine V.getf (pc := 21) C (o := 12) (j := 6) (v := .ref 13) (by decide) rfl rfl inX1 (by decide) (by decide) wf_175 rfl dX1_remember_21 ?_
    refine V.iconst (pc := 24) C (v := (0 : Int32)) dX1_remember_24 (by decide) ?_
    refine V.aload_n (pc := 25) C dX1_remember_25 0 rfl ?_
    refine V.getf (pc := 26) C (o := 12) (j := 7) (v := .int (11 : Int32)) (by decide) rfl rfl inX1 (by decide) (by decide) wf_176 rfl dX1_remember_26 ?_
    refine V.iconst (pc := 29) C (v := (5 : Int32)) dX1_remember_29 (by decide) ?_
    refine V.imul (pc := 30) C dX1_remember_30 ?_
    obtain ⟨h2, eh2, bh2, hs⟩ := o_cp hs
    refine V.acopy (pc := 31) C (a := 13) (b := 13) (h2 := h2) (by decide) (by decide) rfl rfl rfl rfl bh2 eh2 ⟨wf_367, wf_306, wf_305, wf_56⟩ (by decide) (Nat.le_of_ble_eq_true rfl) dX1_remember_31 ?_
    refine V.sub [0] rfl ?_
    exact tb_X1_remember_34 C T  _ hs
abbrev rmX1_put : Room := { frames := 4, cells := 0, slots := 0, locals := 84 }
set_option maxRecDepth 20000 in
theorem ct_X1_put (l : Launch) {x1 : Int32} {h hf : Hp} {r : Int32} (hs : X1_put x1 h = some (r, hf)) : Ct l yX1_put (Cond.code yX1_put cX1_put 3 (some .int) :: wsG) rmX1_put [.ref 12, .int x1] h (some (.int r)) hf := by
  refine Ct.of (by decide +kernel) (fun _ => Nat.le_of_ble_eq_true rfl) (fun k C T => ?_)
  unfold X1_put at hs
  show V k rmX1_put 3 0 [(0, .ref 12), (1, .int x1)] [] h
  refine V.aload_n (pc := 0) C dX1_put_0 0 rfl ?_
  obtain ⟨v2, h1, ch1, hs⟩ := o_b2 hs
  refine V.callV (pc := 1) C (o := 12) (rm := rmX1_blank) (y := yX1_blank) (bytes := cX1_blank) (maxL := 1) (ret := (some .int)) (n := 0) (As := []) (rest := []) (rv := (some (.int v2))) (h1 := h1) (st0 := [.ref 12]) (st2 := [.int v2]) (by decide) rfl rfl (ct_X1_blank (kL k) ch1) wf_359 wf_361 wf_7 wf_53 wf_362 rfl rfl (by decide +kernel) ⟨by decide, by decide⟩ rfl (Nat.le_of_ble_eq_true rfl) dX1_put_1 rfl rfl ?_
  refine V.iload_n (pc := 4) C dX1_put_4 1 rfl ?_
  refine V.iadd (pc := 5) C dX1_put_5 ?_
  refine V.aload_n (pc := 6) C dX1_put_6 0 rfl ?_
  refine V.getf (pc := 7) C (o := 12) (j := 4) (v := .int (h1.1 12 4)) (by decide) rfl rfl inX1 (by decide) (by decide) wf_171 rfl dX1_put_7 ?_
  refine V.imul (pc := 10) C dX1_put_10 ?_
  refine V.istore_n (pc := 11) C (i := 2) (lv2 := [(2, .int ((v2 + x1) * (h1.1 12 4))), (0, .ref 12), (1, .int x1)]) dX1_put_11 rfl (by decide) rfl ?_
  refine V.iload_n (pc := 12) C dX1_put_12 0 rfl ?_
  refine V.aload_n (pc := 13) C dX1_put_13 1 rfl ?_
  refine V.getf (pc := 14) C (o := 12) (j := 3) (v := .int (h1.1 12 3)) (by decide) rfl rfl inX1 (by decide) (by decide) wf_169 rfl dX1_put_14 ?_
  refine V.icmp_le (pc := 17) C (tgt := 23) dX1_put_17 (by decide) (fun c3 => ?_) (fun c3 => ?_)
  · have hs := o_if c3 hs
    refine V.aload_n (pc := 23) C dX1_put_23 1 rfl ?_
    obtain ⟨h4, ch4, hs⟩ := o_bind hs
    refine V.callV (pc := 24) C (o := 12) (rm := rmX1_remember) (y := yX1_remember) (bytes := cX1_remember) (maxL := 2) (ret := none) (n := 0) (As := []) (rest := []) (rv := none) (h1 := h4) (st0 := [.ref 12]) (st2 := []) (by decide) rfl rfl (ct_X1_remember (kL k) ch4) wf_363 wf_365 wf_8 wf_53 wf_366 rfl rfl (by decide +kernel) ⟨by decide, by decide⟩ rfl (Nat.le_of_ble_eq_true rfl) dX1_put_24 rfl rfl ?_
    refine V.aload_n (pc := 27) C dX1_put_27 1 rfl ?_
    refine V.dup (pc := 28) C dX1_put_28 rfl ?_
    refine V.getf (pc := 29) C (o := 12) (j := 3) (v := .int (h4.1 12 3)) (by decide) rfl rfl inX1 (by decide) (by decide) wf_169 rfl dX1_put_29 ?_
    refine V.iload_n (pc := 32) C dX1_put_32 0 rfl ?_
    refine V.isub (pc := 33) C dX1_put_33 ?_
    refine V.put (pc := 34) C (o := 12) (j := 3) (v := ((h4.1 12 3) - ((v2 + x1) * (h1.1 12 4)))) (by decide) rfl rfl inX1 (by decide) (by decide) wf_169 tyX1 tyX1_ok nmX1 rfl rfl rfl rfl dX1_put_34 ?_
    refine V.aload_n (pc := 37) C dX1_put_37 1 rfl ?_
    refine V.dup (pc := 38) C dX1_put_38 rfl ?_
    refine V.getf (pc := 39) C (o := 12) (j := 1) (v := .int (h4.1 12 1)) (by decide) rfl rfl inX1 (by decide) (by decide) wf_165 rfl dX1_put_39 ?_
    refine V.iconst (pc := 42) C (v := (1 : Int32)) dX1_put_42 (by decide) ?_
    refine V.iadd (pc := 43) C dX1_put_43 ?_
    refine V.put (pc := 44) C (o := 12) (j := 1) (v := ((h4.1 12 1) + (1 : Int32))) (by decide) rfl rfl inX1 (by decide) (by decide) wf_165 tyX1 tyX1_ok nmX1 rfl rfl rfl rfl dX1_put_44 ?_
    refine V.aload_n (pc := 47) C dX1_put_47 1 rfl ?_
    refine V.getf (pc := 48) C (o := 12) (j := 3) (v := .int ((h4.1 12 3) - ((v2 + x1) * (h1.1 12 4)))) (by decide) rfl rfl inX1 (by decide) (by decide) wf_169 rfl dX1_put_48 ?_
    exact V.iret (pc := 51) C T hs dX1_put_51
  · have hs := o_el c3 hs
    refine V.bipush (pc := 20) C (v := (-2 : Int32)) dX1_put_20 (by decide) ?_
    exact V.iret (pc := 22) C T hs dX1_put_22
abbrev rmX4_writes : Room := { frames := 5, cells := 0, slots := 0, locals := 106 }
set_option maxRecDepth 20000 in
theorem ct_X4_writes (l : Launch) {h hf : Hp} {r : Int32} (hs : X4_writes h = some (r, hf)) : Ct l yX4_writes (Cond.code yX4_writes cX4_writes 1 (some .int) :: wsG) rmX4_writes [.ref 0] h (some (.int r)) hf := by
  refine Ct.of (by decide +kernel) (fun _ => Nat.le_of_ble_eq_true rfl) (fun k C T => ?_)
  unfold X4_writes at hs
  show V k rmX4_writes 1 0 [(0, .ref 0)] [] h
  refine V.aload_n (pc := 0) C dX4_writes_0 0 rfl ?_
  refine V.getf (pc := 1) C (o := 0) (j := 4) (v := .ref 12) (by decide) rfl rfl inX4 (by decide) (by decide) wf_199 rfl dX4_writes_1 ?_
  obtain ⟨v2, h1, ch1, hs⟩ := o_b2 hs
  refine V.callV (pc := 4) C (o := 12) (rm := rmX1_canWrite) (y := yX1_canWrite) (bytes := cX1_canWrite) (maxL := 1) (ret := (some .boolean)) (n := 0) (As := []) (rest := []) (rv := (some (.int v2))) (h1 := h1) (st0 := [.ref 12]) (st2 := [.int v2]) (by decide) rfl rfl (ct_X1_canWrite (kL k) ch1) wf_346 wf_347 wf_348 wf_53 wf_349 rfl rfl (by decide +kernel) ⟨by decide, by decide⟩ rfl (Nat.le_of_ble_eq_true rfl) dX4_writes_4 rfl rfl ?_
  refine V.if_eq (pc := 7) C (tgt := 35) dX4_writes_7 (by decide) (fun c3 => ?_) (fun c3 => ?_)
  · have hs := o_if c3 hs
    refine V.bipush (pc := 35) C (v := (-2 : Int32)) dX4_writes_35 (by decide) ?_
    exact V.iret (pc := 37) C T hs dX4_writes_37
  · have hs := o_el c3 hs
    refine V.aload_n (pc := 10) C dX4_writes_10 0 rfl ?_
    refine V.getf (pc := 11) C (o := 0) (j := 4) (v := .ref 12) (by decide) rfl rfl inX4 (by decide) (by decide) wf_199 rfl dX4_writes_11 ?_
    refine V.aload_n (pc := 14) C dX4_writes_14 0 rfl ?_
    refine V.getf (pc := 15) C (o := 0) (j := 1) (v := .ref 4) (by decide) rfl rfl inX4 (by decide) (by decide) wf_196 rfl dX4_writes_15 ?_
    refine V.aload_n (pc := 18) C dX4_writes_18 0 rfl ?_
    refine V.getf (pc := 19) C (o := 0) (j := 4) (v := .ref 12) (by decide) rfl rfl inX4 (by decide) (by decide) wf_199 rfl dX4_writes_19 ?_
    refine V.getN (pc := 22) C (o := 12) (j := 1) (v := .int (h1.1 12 1)) (by decide) rfl rfl inX1 (by decide) (by decide) nw_15 rfl dX4_writes_22 ?_
    refine V.iconst (pc := 25) C (v := (0 : Int32)) dX4_writes_25 (by decide) ?_
    obtain ⟨v5, h4, ch4, hs⟩ := o_b2 hs
    refine V.callV (pc := 26) C (o := 4) (rm := rmX3_of) (y := yX3_of) (bytes := cX3_of) (maxL := 3) (ret := (some .int)) (n := 2) (As := [.int (h1.1 12 1), .int (0 : Int32)]) (rest := [.ref 12]) (rv := (some (.int v5))) (h1 := h4) (st0 := [.int (0 : Int32), .int (h1.1 12 1), .ref 4, .ref 12]) (st2 := [.int v5, .ref 12]) (by decide) rfl rfl (ct_X3_of (kL k) ch4) wf_334 wf_335 wf_336 wf_51 wf_337 rfl rfl (by decide +kernel) ⟨by decide, by decide⟩ rfl (Nat.le_of_ble_eq_true rfl) dX4_writes_26 rfl rfl ?_
    obtain ⟨v7, h6, ch6, hs⟩ := o_b2 hs
    refine V.callV (pc := 29) C (o := 12) (rm := rmX1_put) (y := yX1_put) (bytes := cX1_put) (maxL := 3) (ret := (some .int)) (n := 1) (As := [.int v5]) (rest := []) (rv := (some (.int v7))) (h1 := h6) (st0 := [.int v5, .ref 12]) (st2 := [.int v7]) (by decide) rfl rfl (ct_X1_put (kL k) ch6) wf_355 wf_356 wf_357 wf_53 wf_358 rfl rfl (by decide +kernel) ⟨by decide, by decide⟩ rfl (Nat.le_of_ble_eq_true rfl) dX4_writes_29 rfl rfl ?_
    refine V.goto (pc := 32) C (tgt := 37) dX4_writes_32 (by decide) ?_
    exact V.iret (pc := 37) C T hs dX4_writes_37
abbrev rmX4_signs : Room := { frames := 5, cells := 0, slots := 0, locals := 106 }
set_option maxRecDepth 20000 in
theorem ct_X4_signs (l : Launch) {h hf : Hp} {r : Int32} (hs : X4_signs h = some (r, hf)) : Ct l yX4_signs (Cond.code yX4_signs cX4_signs 1 (some .int) :: wsG) rmX4_signs [.ref 0] h (some (.int r)) hf := by
  refine Ct.of (by decide +kernel) (fun _ => Nat.le_of_ble_eq_true rfl) (fun k C T => ?_)
  unfold X4_signs at hs
  show V k rmX4_signs 1 0 [(0, .ref 0)] [] h
  refine V.aload_n (pc := 0) C dX4_signs_0 0 rfl ?_
  refine V.getf (pc := 1) C (o := 0) (j := 4) (v := .ref 12) (by decide) rfl rfl inX4 (by decide) (by decide) wf_199 rfl dX4_signs_1 ?_
  obtain ⟨v2, h1, ch1, hs⟩ := o_b2 hs
  refine V.callV (pc := 4) C (o := 12) (rm := rmX1_canWrite) (y := yX1_canWrite) (bytes := cX1_canWrite) (maxL := 1) (ret := (some .boolean)) (n := 0) (As := []) (rest := []) (rv := (some (.int v2))) (h1 := h1) (st0 := [.ref 12]) (st2 := [.int v2]) (by decide) rfl rfl (ct_X1_canWrite (kL k) ch1) wf_346 wf_347 wf_348 wf_53 wf_349 rfl rfl (by decide +kernel) ⟨by decide, by decide⟩ rfl (Nat.le_of_ble_eq_true rfl) dX4_signs_4 rfl rfl ?_
  refine V.if_eq (pc := 7) C (tgt := 28) dX4_signs_7 (by decide) (fun c3 => ?_) (fun c3 => ?_)
  · have hs := o_if c3 hs
    refine V.bipush (pc := 28) C (v := (-2 : Int32)) dX4_signs_28 (by decide) ?_
    exact V.iret (pc := 30) C T hs dX4_signs_30
  · have hs := o_el c3 hs
    refine V.aload_n (pc := 10) C dX4_signs_10 0 rfl ?_
    refine V.getf (pc := 11) C (o := 0) (j := 1) (v := .ref 4) (by decide) rfl rfl inX4 (by decide) (by decide) wf_196 rfl dX4_signs_11 ?_
    refine V.aload_n (pc := 14) C dX4_signs_14 0 rfl ?_
    refine V.getf (pc := 15) C (o := 0) (j := 4) (v := .ref 12) (by decide) rfl rfl inX4 (by decide) (by decide) wf_199 rfl dX4_signs_15 ?_
    refine V.getN (pc := 18) C (o := 12) (j := 1) (v := .int (h1.1 12 1)) (by decide) rfl rfl inX1 (by decide) (by decide) nw_15 rfl dX4_signs_18 ?_
    refine V.iconst (pc := 21) C (v := (3 : Int32)) dX4_signs_21 (by decide) ?_
    obtain ⟨v5, h4, ch4, hs⟩ := o_b2 hs
    refine V.callV (pc := 22) C (o := 4) (rm := rmX3_of) (y := yX3_of) (bytes := cX3_of) (maxL := 3) (ret := (some .int)) (n := 2) (As := [.int (h1.1 12 1), .int (3 : Int32)]) (rest := []) (rv := (some (.int v5))) (h1 := h4) (st0 := [.int (3 : Int32), .int (h1.1 12 1), .ref 4]) (st2 := [.int v5]) (by decide) rfl rfl (ct_X3_of (kL k) ch4) wf_334 wf_335 wf_336 wf_51 wf_337 rfl rfl (by decide +kernel) ⟨by decide, by decide⟩ rfl (Nat.le_of_ble_eq_true rfl) dX4_signs_22 rfl rfl ?_
    refine V.if_ne (pc := 25) C (tgt := 31) dX4_signs_25 (by decide) (fun c6 => ?_) (fun c6 => ?_)
    · have hs := o_el c6 hs
      refine V.aload_n (pc := 31) C dX4_signs_31 0 rfl ?_
      refine V.getf (pc := 32) C (o := 0) (j := 4) (v := .ref 12) (by decide) rfl rfl inX4 (by decide) (by decide) wf_199 rfl dX4_signs_32 ?_
      refine V.aload_n (pc := 35) C dX4_signs_35 0 rfl ?_
      refine V.getf (pc := 36) C (o := 0) (j := 1) (v := .ref 4) (by decide) rfl rfl inX4 (by decide) (by decide) wf_196 rfl dX4_signs_36 ?_
      refine V.aload_n (pc := 39) C dX4_signs_39 0 rfl ?_
      refine V.getf (pc := 40) C (o := 0) (j := 4) (v := .ref 12) (by decide) rfl rfl inX4 (by decide) (by decide) wf_199 rfl dX4_signs_40 ?_
      refine V.getN (pc := 43) C (o := 12) (j := 1) (v := .int (h4.1 12 1)) (by decide) rfl rfl inX1 (by decide) (by decide) nw_15 rfl dX4_signs_43 ?_
      refine V.iconst (pc := 46) C (v := (3 : Int32)) dX4_signs_46 (by decide) ?_
      obtain ⟨v8, h7, ch7, hs⟩ := o_b2 hs
      refine V.callV (pc := 47) C (o := 4) (rm := rmX3_of) (y := yX3_of) (bytes := cX3_of) (maxL := 3) (ret := (some .int)) (n := 2) (As := [.int (h4.1 12 1), .int (3 : Int32)]) (rest := [.ref 12]) (rv := (some (.int v8))) (h1 := h7) (st0 := [.int (3 : Int32), .int (h4.1 12 1), .ref 4, .ref 12]) (st2 := [.int v8, .ref 12]) (by decide) rfl rfl (ct_X3_of (kL k) ch7) wf_334 wf_335 wf_336 wf_51 wf_337 rfl rfl (by decide +kernel) ⟨by decide, by decide⟩ rfl (Nat.le_of_ble_eq_true rfl) dX4_signs_47 rfl rfl ?_
      obtain ⟨v10, h9, ch9, hs⟩ := o_b2 hs
      refine V.callV (pc := 50) C (o := 12) (rm := rmX1_put) (y := yX1_put) (bytes := cX1_put) (maxL := 3) (ret := (some .int)) (n := 1) (As := [.int v8]) (rest := []) (rv := (some (.int v10))) (h1 := h9) (st0 := [.int v8, .ref 12]) (st2 := [.int v10]) (by decide) rfl rfl (ct_X1_put (kL k) ch9) wf_355 wf_356 wf_357 wf_53 wf_358 rfl rfl (by decide +kernel) ⟨by decide, by decide⟩ rfl (Nat.le_of_ble_eq_true rfl) dX4_signs_50 rfl rfl ?_
      exact V.iret (pc := 53) C T hs dX4_signs_53
    · have hs := o_if c6 hs
      refine V.bipush (pc := 28) C (v := (-2 : Int32)) dX4_signs_28 (by decide) ?_
      exact V.iret (pc := 30) C T hs dX4_signs_30
abbrev rmX1_putBroken : Room := { frames := 4, cells := 0, slots := 0, locals := 84 }
set_option maxRecDepth 20000 in
theorem ct_X1_putBroken (l : Launch) {x1 : Int32} {x2 : Int32} {h hf : Hp} {r : Int32} (hs : X1_putBroken x1 x2 h = some (r, hf)) : Ct l yX1_putBroken (Cond.code yX1_putBroken cX1_putBroken 6 (some .int) :: wsG) rmX1_putBroken [.ref 12, .int x1, .int x2] h (some (.int r)) hf := by
  refine Ct.of (by decide +kernel) (fun _ => Nat.le_of_ble_eq_true rfl) (fun k C T => ?_)
  unfold X1_putBroken at hs
  show V k rmX1_putBroken 6 0 [(0, .ref 12), (1, .int x1), (2, .int x2)] [] h
  refine V.iconst (pc := 0) C (v := (1 : Int32)) dX1_putBroken_0 (by decide) ?_
  refine V.istore_n (pc := 1) C (i := 3) (lv2 := [(3, .int (1 : Int32)), (0, .ref 12), (1, .int x1), (2, .int x2)]) dX1_putBroken_1 rfl (by decide) rfl ?_
  refine V.aload_n (pc := 2) C dX1_putBroken_2 1 rfl ?_
  obtain ⟨v2, h1, ch1, hs⟩ := o_b2 hs
  refine V.callV (pc := 3) C (o := 12) (rm := rmX1_blank) (y := yX1_blank) (bytes := cX1_blank) (maxL := 1) (ret := (some .int)) (n := 0) (As := []) (rest := []) (rv := (some (.int v2))) (h1 := h1) (st0 := [.ref 12]) (st2 := [.int v2]) (by decide) rfl rfl (ct_X1_blank (kL k) ch1) wf_359 wf_361 wf_7 wf_53 wf_362 rfl rfl (by decide +kernel) ⟨by decide, by decide⟩ rfl (Nat.le_of_ble_eq_true rfl) dX1_putBroken_3 rfl rfl ?_
  refine V.iload_n (pc := 6) C dX1_putBroken_6 2 rfl ?_
  refine V.iadd (pc := 7) C dX1_putBroken_7 ?_
  refine V.iload_n (pc := 8) C dX1_putBroken_8 0 rfl ?_
  refine V.iadd (pc := 9) C dX1_putBroken_9 ?_
  refine V.aload_n (pc := 10) C dX1_putBroken_10 1 rfl ?_
  refine V.getf (pc := 11) C (o := 12) (j := 4) (v := .int (h1.1 12 4)) (by decide) rfl rfl inX1 (by decide) (by decide) wf_171 rfl dX1_putBroken_11 ?_
  refine V.imul (pc := 14) C dX1_putBroken_14 ?_
  refine V.istore (pc := 15) C (i := 4) (lv2 := [(4, .int (((v2 + x1) + (1 : Int32)) * (h1.1 12 4))), (3, .int (1 : Int32)), (0, .ref 12), (1, .int x1), (2, .int x2)]) dX1_putBroken_15 (by decide) rfl ?_
  refine V.aload_n (pc := 17) C dX1_putBroken_17 2 rfl ?_
  refine V.getf (pc := 18) C (o := 12) (j := 0) (v := .ref 4) (by decide) rfl rfl inX1 (by decide) (by decide) wf_164 rfl dX1_putBroken_18 ?_
  refine V.aload_n (pc := 21) C dX1_putBroken_21 2 rfl ?_
  refine V.getf (pc := 22) C (o := 12) (j := 2) (v := .int (h1.1 12 2)) (by decide) rfl rfl inX1 (by decide) (by decide) wf_167 rfl dX1_putBroken_22 ?_
  refine V.iconst (pc := 25) C (v := (1 : Int32)) dX1_putBroken_25 (by decide) ?_
  refine V.iadd (pc := 26) C dX1_putBroken_26 ?_
  obtain ⟨v4, h3, ch3, hs⟩ := o_b2 hs
  refine V.callV (pc := 27) C (o := 4) (rm := rmX3_wideOf) (y := yX3_wideOf) (bytes := cX3_wideOf) (maxL := 2) (ret := (some .int)) (n := 1) (As := [.int ((h1.1 12 2) + (1 : Int32))]) (rest := []) (rv := (some (.int v4))) (h1 := h3) (st0 := [.int ((h1.1 12 2) + (1 : Int32)), .ref 4]) (st2 := [.int v4]) (by decide) rfl rfl (ct_X3_wideOf (kL k) ch3) wf_315 wf_316 wf_317 wf_51 wf_318 rfl rfl (by decide +kernel) ⟨by decide, by decide⟩ rfl (Nat.le_of_ble_eq_true rfl) dX1_putBroken_27 rfl rfl ?_
  refine V.istore (pc := 30) C (i := 5) (lv2 := [(5, .int v4), (4, .int (((v2 + x1) + (1 : Int32)) * (h1.1 12 4))), (3, .int (1 : Int32)), (0, .ref 12), (1, .int x1), (2, .int x2)]) dX1_putBroken_30 (by decide) rfl ?_
  refine V.iload (pc := 32) C dX1_putBroken_32 1 rfl ?_
  refine V.aload_n (pc := 34) C dX1_putBroken_34 3 rfl ?_
  refine V.getf (pc := 35) C (o := 12) (j := 3) (v := .int (h3.1 12 3)) (by decide) rfl rfl inX1 (by decide) (by decide) wf_169 rfl dX1_putBroken_35 ?_
  refine V.icmp_gt (pc := 38) C (tgt := 52) dX1_putBroken_38 (by decide) (fun c5 => ?_) (fun c5 => ?_)
  · have hs := o_if c5 hs
    refine V.bipush (pc := 52) C (v := (-2 : Int32)) dX1_putBroken_52 (by decide) ?_
    exact V.iret (pc := 54) C T hs dX1_putBroken_54
  · have hs := o_el c5 hs
    refine V.iload_n (pc := 41) C dX1_putBroken_41 5 rfl ?_
    refine V.aload_n (pc := 42) C dX1_putBroken_42 3 rfl ?_
    refine V.getf (pc := 43) C (o := 12) (j := 4) (v := .int (h3.1 12 4)) (by decide) rfl rfl inX1 (by decide) (by decide) wf_171 rfl dX1_putBroken_43 ?_
    refine V.imul (pc := 46) C dX1_putBroken_46 ?_
    refine V.iload (pc := 47) C dX1_putBroken_47 0 rfl ?_
    refine V.icmp_le (pc := 49) C (tgt := 55) dX1_putBroken_49 (by decide) (fun c6 => ?_) (fun c6 => ?_)
    · have hs := o_if c6 hs
      refine V.aload_n (pc := 55) C dX1_putBroken_55 3 rfl ?_
      obtain ⟨h7, ch7, hs⟩ := o_bind hs
      refine V.callV (pc := 56) C (o := 12) (rm := rmX1_remember) (y := yX1_remember) (bytes := cX1_remember) (maxL := 2) (ret := none) (n := 0) (As := []) (rest := []) (rv := none) (h1 := h7) (st0 := [.ref 12]) (st2 := []) (by decide) rfl rfl (ct_X1_remember (kL k) ch7) wf_363 wf_365 wf_8 wf_53 wf_366 rfl rfl (by decide +kernel) ⟨by decide, by decide⟩ rfl (Nat.le_of_ble_eq_true rfl) dX1_putBroken_56 rfl rfl ?_
      refine V.aload_n (pc := 59) C dX1_putBroken_59 3 rfl ?_
      refine V.dup (pc := 60) C dX1_putBroken_60 rfl ?_
      refine V.getf (pc := 61) C (o := 12) (j := 2) (v := .int (h7.1 12 2)) (by decide) rfl rfl inX1 (by decide) (by decide) wf_167 rfl dX1_putBroken_61 ?_
      refine V.iconst (pc := 64) C (v := (1 : Int32)) dX1_putBroken_64 (by decide) ?_
      refine V.iadd (pc := 65) C dX1_putBroken_65 ?_
      refine V.put (pc := 66) C (o := 12) (j := 2) (v := ((h7.1 12 2) + (1 : Int32))) (by decide) rfl rfl inX1 (by decide) (by decide) wf_167 tyX1 tyX1_ok nmX1 rfl rfl rfl rfl dX1_putBroken_66 ?_
      refine V.aload_n (pc := 69) C dX1_putBroken_69 3 rfl ?_
      refine V.iload (pc := 70) C dX1_putBroken_70 0 rfl ?_
      refine V.iload_n (pc := 72) C dX1_putBroken_72 5 rfl ?_
      refine V.aload_n (pc := 73) C dX1_putBroken_73 3 rfl ?_
      refine V.getf (pc := 74) C (o := 12) (j := 4) (v := .int (h7.1 12 4)) (by decide) rfl rfl inX1 (by decide) (by decide) wf_171 rfl dX1_putBroken_74 ?_
      refine V.imul (pc := 77) C dX1_putBroken_77 ?_
      refine V.isub (pc := 78) C dX1_putBroken_78 ?_
      refine V.put (pc := 79) C (o := 12) (j := 3) (v := (v4 - (x2 * (h7.1 12 4)))) (by decide) rfl rfl inX1 (by decide) (by decide) wf_169 tyX1 tyX1_ok nmX1 rfl rfl rfl rfl dX1_putBroken_79 ?_
      refine V.aload_n (pc := 82) C dX1_putBroken_82 3 rfl ?_
      refine V.dup (pc := 83) C dX1_putBroken_83 rfl ?_
      refine V.getf (pc := 84) C (o := 12) (j := 1) (v := .int (h7.1 12 1)) (by decide) rfl rfl inX1 (by decide) (by decide) wf_165 rfl dX1_putBroken_84 ?_
      refine V.iconst (pc := 87) C (v := (1 : Int32)) dX1_putBroken_87 (by decide) ?_
      refine V.iadd (pc := 88) C dX1_putBroken_88 ?_
      refine V.put (pc := 89) C (o := 12) (j := 1) (v := ((h7.1 12 1) + (1 : Int32))) (by decide) rfl rfl inX1 (by decide) (by decide) wf_165 tyX1 tyX1_ok nmX1 rfl rfl rfl rfl dX1_putBroken_89 ?_
      refine V.aload_n (pc := 92) C dX1_putBroken_92 3 rfl ?_
      refine V.getf (pc := 93) C (o := 12) (j := 3) (v := .int (v4 - (x2 * (h7.1 12 4)))) (by decide) rfl rfl inX1 (by decide) (by decide) wf_169 rfl dX1_putBroken_93 ?_
      exact V.iret (pc := 96) C T hs dX1_putBroken_96
    · have hs := o_el c6 hs
      refine V.bipush (pc := 52) C (v := (-2 : Int32)) dX1_putBroken_52 (by decide) ?_
      exact V.iret (pc := 54) C T hs dX1_putBroken_54
abbrev rmX4_breaks : Room := { frames := 5, cells := 0, slots := 0, locals := 109 }
set_option maxRecDepth 20000 in
theorem ct_X4_breaks (l : Launch) {h hf : Hp} {r : Int32} (hs : X4_breaks h = some (r, hf)) : Ct l yX4_breaks (Cond.code yX4_breaks cX4_breaks 2 (some .int) :: wsG) rmX4_breaks [.ref 0] h (some (.int r)) hf := by
  refine Ct.of (by decide +kernel) (fun _ => Nat.le_of_ble_eq_true rfl) (fun k C T => ?_)
  unfold X4_breaks at hs
  show V k rmX4_breaks 2 0 [(0, .ref 0)] [] h
  refine V.aload_n (pc := 0) C dX4_breaks_0 0 rfl ?_
  refine V.getf (pc := 1) C (o := 0) (j := 4) (v := .ref 12) (by decide) rfl rfl inX4 (by decide) (by decide) wf_199 rfl dX4_breaks_1 ?_
  obtain ⟨v2, h1, ch1, hs⟩ := o_b2 hs
  refine V.callV (pc := 4) C (o := 12) (rm := rmX1_canWrite) (y := yX1_canWrite) (bytes := cX1_canWrite) (maxL := 1) (ret := (some .boolean)) (n := 0) (As := []) (rest := []) (rv := (some (.int v2))) (h1 := h1) (st0 := [.ref 12]) (st2 := [.int v2]) (by decide) rfl rfl (ct_X1_canWrite (kL k) ch1) wf_346 wf_347 wf_348 wf_53 wf_349 rfl rfl (by decide +kernel) ⟨by decide, by decide⟩ rfl (Nat.le_of_ble_eq_true rfl) dX4_breaks_4 rfl rfl ?_
  refine V.if_eq (pc := 7) C (tgt := 28) dX4_breaks_7 (by decide) (fun c3 => ?_) (fun c3 => ?_)
  · have hs := o_if c3 hs
    refine V.bipush (pc := 28) C (v := (-2 : Int32)) dX4_breaks_28 (by decide) ?_
    exact V.iret (pc := 30) C T hs dX4_breaks_30
  · have hs := o_el c3 hs
    refine V.aload_n (pc := 10) C dX4_breaks_10 0 rfl ?_
    refine V.getf (pc := 11) C (o := 0) (j := 1) (v := .ref 4) (by decide) rfl rfl inX4 (by decide) (by decide) wf_196 rfl dX4_breaks_11 ?_
    refine V.aload_n (pc := 14) C dX4_breaks_14 0 rfl ?_
    refine V.getf (pc := 15) C (o := 0) (j := 4) (v := .ref 12) (by decide) rfl rfl inX4 (by decide) (by decide) wf_199 rfl dX4_breaks_15 ?_
    refine V.getN (pc := 18) C (o := 12) (j := 1) (v := .int (h1.1 12 1)) (by decide) rfl rfl inX1 (by decide) (by decide) nw_15 rfl dX4_breaks_18 ?_
    refine V.iconst (pc := 21) C (v := (4 : Int32)) dX4_breaks_21 (by decide) ?_
    obtain ⟨v5, h4, ch4, hs⟩ := o_b2 hs
    refine V.callV (pc := 22) C (o := 4) (rm := rmX3_of) (y := yX3_of) (bytes := cX3_of) (maxL := 3) (ret := (some .int)) (n := 2) (As := [.int (h1.1 12 1), .int (4 : Int32)]) (rest := []) (rv := (some (.int v5))) (h1 := h4) (st0 := [.int (4 : Int32), .int (h1.1 12 1), .ref 4]) (st2 := [.int v5]) (by decide) rfl rfl (ct_X3_of (kL k) ch4) wf_334 wf_335 wf_336 wf_51 wf_337 rfl rfl (by decide +kernel) ⟨by decide, by decide⟩ rfl (Nat.le_of_ble_eq_true rfl) dX4_breaks_22 rfl rfl ?_
    refine V.if_ne (pc := 25) C (tgt := 31) dX4_breaks_25 (by decide) (fun c6 => ?_) (fun c6 => ?_)
    · have hs := o_el c6 hs
      refine V.aload_n (pc := 31) C dX4_breaks_31 0 rfl ?_
      refine V.getf (pc := 32) C (o := 0) (j := 1) (v := .ref 4) (by decide) rfl rfl inX4 (by decide) (by decide) wf_196 rfl dX4_breaks_32 ?_
      refine V.aload_n (pc := 35) C dX4_breaks_35 0 rfl ?_
      refine V.getf (pc := 36) C (o := 0) (j := 4) (v := .ref 12) (by decide) rfl rfl inX4 (by decide) (by decide) wf_199 rfl dX4_breaks_36 ?_
      refine V.getN (pc := 39) C (o := 12) (j := 1) (v := .int (h4.1 12 1)) (by decide) rfl rfl inX1 (by decide) (by decide) nw_15 rfl dX4_breaks_39 ?_
      refine V.iconst (pc := 42) C (v := (4 : Int32)) dX4_breaks_42 (by decide) ?_
      obtain ⟨v8, h7, ch7, hs⟩ := o_b2 hs
      refine V.callV (pc := 43) C (o := 4) (rm := rmX3_of) (y := yX3_of) (bytes := cX3_of) (maxL := 3) (ret := (some .int)) (n := 2) (As := [.int (h4.1 12 1), .int (4 : Int32)]) (rest := []) (rv := (some (.int v8))) (h1 := h7) (st0 := [.int (4 : Int32), .int (h4.1 12 1), .ref 4]) (st2 := [.int v8]) (by decide) rfl rfl (ct_X3_of (kL k) ch7) wf_334 wf_335 wf_336 wf_51 wf_337 rfl rfl (by decide +kernel) ⟨by decide, by decide⟩ rfl (Nat.le_of_ble_eq_true rfl) dX4_breaks_43 rfl rfl ?_
      refine V.istore_n (pc := 46) C (i := 1) (lv2 := [(1, .int v8), (0, .ref 0)]) dX4_breaks_46 rfl (by decide) rfl ?_
      refine V.aload_n (pc := 47) C dX4_breaks_47 1 rfl ?_
      refine V.getf (pc := 48) C (o := 0) (j := 4) (v := .ref 12) (by decide) rfl rfl inX4 (by decide) (by decide) wf_199 rfl dX4_breaks_48 ?_
      refine V.iload_n (pc := 51) C dX4_breaks_51 0 rfl ?_
      refine V.aload_n (pc := 52) C dX4_breaks_52 1 rfl ?_
      refine V.getf (pc := 53) C (o := 0) (j := 1) (v := .ref 4) (by decide) rfl rfl inX4 (by decide) (by decide) wf_196 rfl dX4_breaks_53 ?_
      refine V.aload_n (pc := 56) C dX4_breaks_56 1 rfl ?_
      refine V.getf (pc := 57) C (o := 0) (j := 4) (v := .ref 12) (by decide) rfl rfl inX4 (by decide) (by decide) wf_199 rfl dX4_breaks_57 ?_
      refine V.getN (pc := 60) C (o := 12) (j := 1) (v := .int (h7.1 12 1)) (by decide) rfl rfl inX1 (by decide) (by decide) nw_15 rfl dX4_breaks_60 ?_
      refine V.iconst (pc := 63) C (v := (0 : Int32)) dX4_breaks_63 (by decide) ?_
      obtain ⟨v10, h9, ch9, hs⟩ := o_b2 hs
      refine V.callV (pc := 64) C (o := 4) (rm := rmX3_of) (y := yX3_of) (bytes := cX3_of) (maxL := 3) (ret := (some .int)) (n := 2) (As := [.int (h7.1 12 1), .int (0 : Int32)]) (rest := [.int v8, .ref 12]) (rv := (some (.int v10))) (h1 := h9) (st0 := [.int (0 : Int32), .int (h7.1 12 1), .ref 4, .int v8, .ref 12]) (st2 := [.int v10, .int v8, .ref 12]) (by decide) rfl rfl (ct_X3_of (kL k) ch9) wf_334 wf_335 wf_336 wf_51 wf_337 rfl rfl (by decide +kernel) ⟨by decide, by decide⟩ rfl (Nat.le_of_ble_eq_true rfl) dX4_breaks_64 rfl rfl ?_
      refine V.iload_n (pc := 67) C dX4_breaks_67 0 rfl ?_
      refine V.isub (pc := 68) C dX4_breaks_68 ?_
      obtain ⟨v12, h11, ch11, hs⟩ := o_b2 hs
      refine V.callV (pc := 69) C (o := 12) (rm := rmX1_putBroken) (y := yX1_putBroken) (bytes := cX1_putBroken) (maxL := 6) (ret := (some .int)) (n := 2) (As := [.int v8, .int (v10 - v8)]) (rest := []) (rv := (some (.int v12))) (h1 := h11) (st0 := [.int (v10 - v8), .int v8, .ref 12]) (st2 := [.int v12]) (by decide) rfl rfl (ct_X1_putBroken (kL k) ch11) wf_376 wf_377 wf_378 wf_53 wf_379 rfl rfl (by decide +kernel) ⟨by decide, by decide⟩ rfl (Nat.le_of_ble_eq_true rfl) dX4_breaks_69 rfl rfl ?_
      exact V.iret (pc := 72) C T hs dX4_breaks_72
    · have hs := o_if c6 hs
      refine V.bipush (pc := 28) C (v := (-2 : Int32)) dX4_breaks_28 (by decide) ?_
      exact V.iret (pc := 30) C T hs dX4_breaks_30
abbrev rmJ6_bitCount_0f7a4 : Room := { frames := 0, cells := 0, slots := 0, locals := 0 }
set_option maxRecDepth 20000 in
theorem ct_J6_bitCount_0f7a4 (l : Launch) {x0 : Int32} {h hf : Hp} {r : Int32} (hs : J6_bitCount_0f7a4 x0 h = some (r, hf)) : Ct l yJ6_bitCount_0f7a4 (Cond.code yJ6_bitCount_0f7a4 cJ6_bitCount_0f7a4 1 (some .int) :: wsG) rmJ6_bitCount_0f7a4 [.int x0] h (some (.int r)) hf := by
  refine Ct.of (by decide +kernel) (fun _ => Nat.le_of_ble_eq_true rfl) (fun k C T => ?_)
  unfold J6_bitCount_0f7a4 at hs
  show V k rmJ6_bitCount_0f7a4 1 0 [(0, .int x0)] [] h
  refine V.iload_n (pc := 0) C dJ6_bitCount_0f7a4_0 0 rfl ?_
  refine V.iload_n (pc := 1) C dJ6_bitCount_0f7a4_1 0 rfl ?_
  refine V.iconst (pc := 2) C (v := (1 : Int32)) dJ6_bitCount_0f7a4_2 (by decide) ?_
  refine V.iushr (pc := 3) C dJ6_bitCount_0f7a4_3 ?_
  refine V.ldcw (pc := 4) C wf_392 dJ6_bitCount_0f7a4_4 ?_
  refine V.iand (pc := 7) C dJ6_bitCount_0f7a4_7 ?_
  refine V.isub (pc := 8) C dJ6_bitCount_0f7a4_8 ?_
  refine V.istore_n (pc := 9) C (i := 0) (lv2 := [(0, .int (x0 - ((((x0).toUInt32 >>> (((1 : Int32)).toUInt32 &&& Int32.toUInt32 31)).toInt32) &&& (1431655765 : Int32))))]) dJ6_bitCount_0f7a4_9 rfl (by decide) rfl ?_
  refine V.iload_n (pc := 10) C dJ6_bitCount_0f7a4_10 0 rfl ?_
  refine V.ldcw (pc := 11) C wf_393 dJ6_bitCount_0f7a4_11 ?_
  refine V.iand (pc := 14) C dJ6_bitCount_0f7a4_14 ?_
  refine V.iload_n (pc := 15) C dJ6_bitCount_0f7a4_15 0 rfl ?_
  refine V.iconst (pc := 16) C (v := (2 : Int32)) dJ6_bitCount_0f7a4_16 (by decide) ?_
  refine V.iushr (pc := 17) C dJ6_bitCount_0f7a4_17 ?_
  refine V.ldcw (pc := 18) C wf_393 dJ6_bitCount_0f7a4_18 ?_
  refine V.iand (pc := 21) C dJ6_bitCount_0f7a4_21 ?_
  refine V.iadd (pc := 22) C dJ6_bitCount_0f7a4_22 ?_
  refine V.istore_n (pc := 23) C (i := 0) (lv2 := [(0, .int (((x0 - ((((x0).toUInt32 >>> (((1 : Int32)).toUInt32 &&& Int32.toUInt32 31)).toInt32) &&& (1431655765 : Int32))) &&& (858993459 : Int32)) + (((((x0 - ((((x0).toUInt32 >>> (((1 : Int32)).toUInt32 &&& Int32.toUInt32 31)).toInt32) &&& (1431655765 : Int32)))).toUInt32 >>> (((2 : Int32)).toUInt32 &&& Int32.toUInt32 31)).toInt32) &&& (858993459 : Int32))))]) dJ6_bitCount_0f7a4_23 rfl (by decide) rfl ?_
  refine V.iload_n (pc := 24) C dJ6_bitCount_0f7a4_24 0 rfl ?_
  refine V.iload_n (pc := 25) C dJ6_bitCount_0f7a4_25 0 rfl ?_
  refine V.iconst (pc := 26) C (v := (4 : Int32)) dJ6_bitCount_0f7a4_26 (by decide) ?_
  refine V.iushr (pc := 27) C dJ6_bitCount_0f7a4_27 ?_
  refine V.iadd (pc := 28) C dJ6_bitCount_0f7a4_28 ?_
  refine V.ldcw (pc := 29) C wf_394 dJ6_bitCount_0f7a4_29 ?_
  refine V.iand (pc := 32) C dJ6_bitCount_0f7a4_32 ?_
  refine V.istore_n (pc := 33) C (i := 0) (lv2 := [(0, .int (((((x0 - ((((x0).toUInt32 >>> (((1 : Int32)).toUInt32 &&& Int32.toUInt32 31)).toInt32) &&& (1431655765 : Int32))) &&& (858993459 : Int32)) + (((((x0 - ((((x0).toUInt32 >>> (((1 : Int32)).toUInt32 &&& Int32.toUInt32 31)).toInt32) &&& (1431655765 : Int32)))).toUInt32 >>> (((2 : Int32)).toUInt32 &&& Int32.toUInt32 31)).toInt32) &&& (858993459 : Int32))) + ((((((x0 - ((((x0).toUInt32 >>> (((1 : Int32)).toUInt32 &&& Int32.toUInt32 31)).toInt32) &&& (1431655765 : Int32))) &&& (858993459 : Int32)) + (((((x0 - ((((x0).toUInt32 >>> (((1 : Int32)).toUInt32 &&& Int32.toUInt32 31)).toInt32) &&& (1431655765 : Int32)))).toUInt32 >>> (((2 : Int32)).toUInt32 &&& Int32.toUInt32 31)).toInt32) &&& (858993459 : Int32)))).toUInt32 >>> (((4 : Int32)).toUInt32 &&& Int32.toUInt32 31)).toInt32)) &&& (252645135 : Int32)))]) dJ6_bitCount_0f7a4_33 rfl (by decide) rfl ?_
  refine V.iload_n (pc := 34) C dJ6_bitCount_0f7a4_34 0 rfl ?_
  refine V.iload_n (pc := 35) C dJ6_bitCount_0f7a4_35 0 rfl ?_
  refine V.bipush (pc := 36) C (v := (8 : Int32)) dJ6_bitCount_0f7a4_36 (by decide) ?_
  refine V.iushr (pc := 38) C dJ6_bitCount_0f7a4_38 ?_
  refine V.iadd (pc := 39) C dJ6_bitCount_0f7a4_39 ?_
  refine V.istore_n (pc := 40) C (i := 0) (lv2 := [(0, .int ((((((x0 - ((((x0).toUInt32 >>> (((1 : Int32)).toUInt32 &&& Int32.toUInt32 31)).toInt32) &&& (1431655765 : Int32))) &&& (858993459 : Int32)) + (((((x0 - ((((x0).toUInt32 >>> (((1 : Int32)).toUInt32 &&& Int32.toUInt32 31)).toInt32) &&& (1431655765 : Int32)))).toUInt32 >>> (((2 : Int32)).toUInt32 &&& Int32.toUInt32 31)).toInt32) &&& (858993459 : Int32))) + ((((((x0 - ((((x0).toUInt32 >>> (((1 : Int32)).toUInt32 &&& Int32.toUInt32 31)).toInt32) &&& (1431655765 : Int32))) &&& (858993459 : Int32)) + (((((x0 - ((((x0).toUInt32 >>> (((1 : Int32)).toUInt32 &&& Int32.toUInt32 31)).toInt32) &&& (1431655765 : Int32)))).toUInt32 >>> (((2 : Int32)).toUInt32 &&& Int32.toUInt32 31)).toInt32) &&& (858993459 : Int32)))).toUInt32 >>> (((4 : Int32)).toUInt32 &&& Int32.toUInt32 31)).toInt32)) &&& (252645135 : Int32)) + ((((((((x0 - ((((x0).toUInt32 >>> (((1 : Int32)).toUInt32 &&& Int32.toUInt32 31)).toInt32) &&& (1431655765 : Int32))) &&& (858993459 : Int32)) + (((((x0 - ((((x0).toUInt32 >>> (((1 : Int32)).toUInt32 &&& Int32.toUInt32 31)).toInt32) &&& (1431655765 : Int32)))).toUInt32 >>> (((2 : Int32)).toUInt32 &&& Int32.toUInt32 31)).toInt32) &&& (858993459 : Int32))) + ((((((x0 - ((((x0).toUInt32 >>> (((1 : Int32)).toUInt32 &&& Int32.toUInt32 31)).toInt32) &&& (1431655765 : Int32))) &&& (858993459 : Int32)) + (((((x0 - ((((x0).toUInt32 >>> (((1 : Int32)).toUInt32 &&& Int32.toUInt32 31)).toInt32) &&& (1431655765 : Int32)))).toUInt32 >>> (((2 : Int32)).toUInt32 &&& Int32.toUInt32 31)).toInt32) &&& (858993459 : Int32)))).toUInt32 >>> (((4 : Int32)).toUInt32 &&& Int32.toUInt32 31)).toInt32)) &&& (252645135 : Int32))).toUInt32 >>> (((8 : Int32)).toUInt32 &&& Int32.toUInt32 31)).toInt32)))]) dJ6_bitCount_0f7a4_40 rfl (by decide) rfl ?_
  refine V.iload_n (pc := 41) C dJ6_bitCount_0f7a4_41 0 rfl ?_
  refine V.iload_n (pc := 42) C dJ6_bitCount_0f7a4_42 0 rfl ?_
  refine V.bipush (pc := 43) C (v := (16 : Int32)) dJ6_bitCount_0f7a4_43 (by decide) ?_
  refine V.iushr (pc := 45) C dJ6_bitCount_0f7a4_45 ?_
  refine V.iadd (pc := 46) C dJ6_bitCount_0f7a4_46 ?_
  refine V.istore_n (pc := 47) C (i := 0) (lv2 := [(0, .int (((((((x0 - ((((x0).toUInt32 >>> (((1 : Int32)).toUInt32 &&& Int32.toUInt32 31)).toInt32) &&& (1431655765 : Int32))) &&& (858993459 : Int32)) + (((((x0 - ((((x0).toUInt32 >>> (((1 : Int32)).toUInt32 &&& Int32.toUInt32 31)).toInt32) &&& (1431655765 : Int32)))).toUInt32 >>> (((2 : Int32)).toUInt32 &&& Int32.toUInt32 31)).toInt32) &&& (858993459 : Int32))) + ((((((x0 - ((((x0).toUInt32 >>> (((1 : Int32)).toUInt32 &&& Int32.toUInt32 31)).toInt32) &&& (1431655765 : Int32))) &&& (858993459 : Int32)) + (((((x0 - ((((x0).toUInt32 >>> (((1 : Int32)).toUInt32 &&& Int32.toUInt32 31)).toInt32) &&& (1431655765 : Int32)))).toUInt32 >>> (((2 : Int32)).toUInt32 &&& Int32.toUInt32 31)).toInt32) &&& (858993459 : Int32)))).toUInt32 >>> (((4 : Int32)).toUInt32 &&& Int32.toUInt32 31)).toInt32)) &&& (252645135 : Int32)) + ((((((((x0 - ((((x0).toUInt32 >>> (((1 : Int32)).toUInt32 &&& Int32.toUInt32 31)).toInt32) &&& (1431655765 : Int32))) &&& (858993459 : Int32)) + (((((x0 - ((((x0).toUInt32 >>> (((1 : Int32)).toUInt32 &&& Int32.toUInt32 31)).toInt32) &&& (1431655765 : Int32)))).toUInt32 >>> (((2 : Int32)).toUInt32 &&& Int32.toUInt32 31)).toInt32) &&& (858993459 : Int32))) + ((((((x0 - ((((x0).toUInt32 >>> (((1 : Int32)).toUInt32 &&& Int32.toUInt32 31)).toInt32) &&& (1431655765 : Int32))) &&& (858993459 : Int32)) + (((((x0 - ((((x0).toUInt32 >>> (((1 : Int32)).toUInt32 &&& Int32.toUInt32 31)).toInt32) &&& (1431655765 : Int32)))).toUInt32 >>> (((2 : Int32)).toUInt32 &&& Int32.toUInt32 31)).toInt32) &&& (858993459 : Int32)))).toUInt32 >>> (((4 : Int32)).toUInt32 &&& Int32.toUInt32 31)).toInt32)) &&& (252645135 : Int32))).toUInt32 >>> (((8 : Int32)).toUInt32 &&& Int32.toUInt32 31)).toInt32)) + (((((((((x0 - ((((x0).toUInt32 >>> (((1 : Int32)).toUInt32 &&& Int32.toUInt32 31)).toInt32) &&& (1431655765 : Int32))) &&& (858993459 : Int32)) + (((((x0 - ((((x0).toUInt32 >>> (((1 : Int32)).toUInt32 &&& Int32.toUInt32 31)).toInt32) &&& (1431655765 : Int32)))).toUInt32 >>> (((2 : Int32)).toUInt32 &&& Int32.toUInt32 31)).toInt32) &&& (858993459 : Int32))) + ((((((x0 - ((((x0).toUInt32 >>> (((1 : Int32)).toUInt32 &&& Int32.toUInt32 31)).toInt32) &&& (1431655765 : Int32))) &&& (858993459 : Int32)) + (((((x0 - ((((x0).toUInt32 >>> (((1 : Int32)).toUInt32 &&& Int32.toUInt32 31)).toInt32) &&& (1431655765 : Int32)))).toUInt32 >>> (((2 : Int32)).toUInt32 &&& Int32.toUInt32 31)).toInt32) &&& (858993459 : Int32)))).toUInt32 >>> (((4 : Int32)).toUInt32 &&& Int32.toUInt32 31)).toInt32)) &&& (252645135 : Int32)) + ((((((((x0 - ((((x0).toUInt32 >>> (((1 : Int32)).toUInt32 &&& Int32.toUInt32 31)).toInt32) &&& (1431655765 : Int32))) &&& (858993459 : Int32)) + (((((x0 - ((((x0).toUInt32 >>> (((1 : Int32)).toUInt32 &&& Int32.toUInt32 31)).toInt32) &&& (1431655765 : Int32)))).toUInt32 >>> (((2 : Int32)).toUInt32 &&& Int32.toUInt32 31)).toInt32) &&& (858993459 : Int32))) + ((((((x0 - ((((x0).toUInt32 >>> (((1 : Int32)).toUInt32 &&& Int32.toUInt32 31)).toInt32) &&& (1431655765 : Int32))) &&& (858993459 : Int32)) + (((((x0 - ((((x0).toUInt32 >>> (((1 : Int32)).toUInt32 &&& Int32.toUInt32 31)).toInt32) &&& (1431655765 : Int32)))).toUInt32 >>> (((2 : Int32)).toUInt32 &&& Int32.toUInt32 31)).toInt32) &&& (858993459 : Int32)))).toUInt32 >>> (((4 : Int32)).toUInt32 &&& Int32.toUInt32 31)).toInt32)) &&& (252645135 : Int32))).toUInt32 >>> (((8 : Int32)).toUInt32 &&& Int32.toUInt32 31)).toInt32))).toUInt32 >>> (((16 : Int32)).toUInt32 &&& Int32.toUInt32 31)).toInt32)))]) dJ6_bitCount_0f7a4_47 rfl (by decide) rfl ?_
  refine V.iload_n (pc := 48) C dJ6_bitCount_0f7a4_48 0 rfl ?_
  refine V.bipush (pc := 49) C (v := (63 : Int32)) dJ6_bitCount_0f7a4_49 (by decide) ?_
  refine V.iand (pc := 51) C dJ6_bitCount_0f7a4_51 ?_
  exact V.iret (pc := 52) C T hs dJ6_bitCount_0f7a4_52
abbrev rmX1_leaveOut : Room := { frames := 2, cells := 0, slots := 0, locals := 59 }
set_option maxRecDepth 20000 in
theorem ct_X1_leaveOut (l : Launch) {h hf : Hp} {r : Int32} (hs : X1_leaveOut h = some (r, hf)) : Ct l yX1_leaveOut (Cond.code yX1_leaveOut cX1_leaveOut 1 (some .int) :: wsG) rmX1_leaveOut [.ref 12] h (some (.int r)) hf := by
  refine Ct.of (by decide +kernel) (fun _ => Nat.le_of_ble_eq_true rfl) (fun k C T => ?_)
  unfold X1_leaveOut at hs
  show V k rmX1_leaveOut 1 0 [(0, .ref 12)] [] h
  refine V.aload_n (pc := 0) C dX1_leaveOut_0 0 rfl ?_
  obtain ⟨h1, ch1, hs⟩ := o_bind hs
  refine V.callV (pc := 1) C (o := 12) (rm := rmX1_remember) (y := yX1_remember) (bytes := cX1_remember) (maxL := 2) (ret := none) (n := 0) (As := []) (rest := []) (rv := none) (h1 := h1) (st0 := [.ref 12]) (st2 := []) (by decide) rfl rfl (ct_X1_remember (kL k) ch1) wf_363 wf_365 wf_8 wf_53 wf_366 rfl rfl (by decide +kernel) ⟨by decide, by decide⟩ rfl (Nat.le_of_ble_eq_true rfl) dX1_leaveOut_1 rfl rfl ?_
  refine V.aload_n (pc := 4) C dX1_leaveOut_4 0 rfl ?_
  refine V.dup (pc := 5) C dX1_leaveOut_5 rfl ?_
  refine V.getf (pc := 6) C (o := 12) (j := 5) (v := .int (h1.1 12 5)) (by decide) rfl rfl inX1 (by decide) (by decide) wf_173 rfl dX1_leaveOut_6 ?_
  refine V.iconst (pc := 9) C (v := (1 : Int32)) dX1_leaveOut_9 (by decide) ?_
  refine V.aload_n (pc := 10) C dX1_leaveOut_10 0 rfl ?_
  refine V.getf (pc := 11) C (o := 12) (j := 1) (v := .int (h1.1 12 1)) (by decide) rfl rfl inX1 (by decide) (by decide) wf_165 rfl dX1_leaveOut_11 ?_
  refine V.ishl (pc := 14) C dX1_leaveOut_14 ?_
  refine V.ior (pc := 15) C dX1_leaveOut_15 ?_
  refine V.put (pc := 16) C (o := 12) (j := 5) (v := ((h1.1 12 5) ||| ((1 : Int32) <<< ((h1.1 12 1) &&& 31)))) (by decide) rfl rfl inX1 (by decide) (by decide) wf_173 tyX1 tyX1_ok nmX1 rfl rfl rfl rfl dX1_leaveOut_16 ?_
  refine V.aload_n (pc := 19) C dX1_leaveOut_19 0 rfl ?_
  refine V.dup (pc := 20) C dX1_leaveOut_20 rfl ?_
  refine V.getf (pc := 21) C (o := 12) (j := 1) (v := .int (h1.1 12 1)) (by decide) rfl rfl inX1 (by decide) (by decide) wf_165 rfl dX1_leaveOut_21 ?_
  refine V.iconst (pc := 24) C (v := (1 : Int32)) dX1_leaveOut_24 (by decide) ?_
  refine V.iadd (pc := 25) C dX1_leaveOut_25 ?_
  refine V.put (pc := 26) C (o := 12) (j := 1) (v := ((h1.1 12 1) + (1 : Int32))) (by decide) rfl rfl inX1 (by decide) (by decide) wf_165 tyX1 tyX1_ok nmX1 rfl rfl rfl rfl dX1_leaveOut_26 ?_
  refine V.aload_n (pc := 29) C dX1_leaveOut_29 0 rfl ?_
  refine V.getf (pc := 30) C (o := 12) (j := 5) (v := .int ((h1.1 12 5) ||| ((1 : Int32) <<< ((h1.1 12 1) &&& 31)))) (by decide) rfl rfl inX1 (by decide) (by decide) wf_173 rfl dX1_leaveOut_30 ?_
  obtain ⟨v3, h2, ch2, hs⟩ := o_b2 hs
  refine V.callS (pc := 33) C (rm := rmJ6_bitCount_0f7a4) (y := yJ6_bitCount_0f7a4) (bytes := cJ6_bitCount_0f7a4) (maxL := 1) (ret := (some .int)) (n := 1) (As := [.int ((h1.1 12 5) ||| ((1 : Int32) <<< ((h1.1 12 1) &&& 31)))]) (rest := []) (rv := (some (.int v3))) (h1 := h2) (st0 := [.int ((h1.1 12 5) ||| ((1 : Int32) <<< ((h1.1 12 1) &&& 31)))]) (st2 := [.int v3]) (ct_J6_bitCount_0f7a4 (kL k) ch2) wf_389 wf_390 wf_57 wf_391 rfl rfl (by decide +kernel) ⟨by decide, by decide⟩ rfl (Nat.le_of_ble_eq_true rfl) dX1_leaveOut_33 rfl rfl ?_
  exact V.iret (pc := 36) C T hs dX1_leaveOut_36
abbrev rmX4_omits : Room := { frames := 3, cells := 0, slots := 0, locals := 79 }
set_option maxRecDepth 20000 in
theorem ct_X4_omits (l : Launch) {h hf : Hp} {r : Int32} (hs : X4_omits h = some (r, hf)) : Ct l yX4_omits (Cond.code yX4_omits cX4_omits 1 (some .int) :: wsG) rmX4_omits [.ref 0] h (some (.int r)) hf := by
  refine Ct.of (by decide +kernel) (fun _ => Nat.le_of_ble_eq_true rfl) (fun k C T => ?_)
  unfold X4_omits at hs
  show V k rmX4_omits 1 0 [(0, .ref 0)] [] h
  refine V.aload_n (pc := 0) C dX4_omits_0 0 rfl ?_
  refine V.getf (pc := 1) C (o := 0) (j := 4) (v := .ref 12) (by decide) rfl rfl inX4 (by decide) (by decide) wf_199 rfl dX4_omits_1 ?_
  obtain ⟨v2, h1, ch1, hs⟩ := o_b2 hs
  refine V.callV (pc := 4) C (o := 12) (rm := rmX1_hasNext) (y := yX1_hasNext) (bytes := cX1_hasNext) (maxL := 1) (ret := (some .boolean)) (n := 0) (As := []) (rest := []) (rv := (some (.int v2))) (h1 := h1) (st0 := [.ref 12]) (st2 := [.int v2]) (by decide) rfl rfl (ct_X1_hasNext (kL k) ch1) wf_384 wf_351 wf_352 wf_53 wf_353 rfl rfl (by decide +kernel) ⟨by decide, by decide⟩ rfl (Nat.le_of_ble_eq_true rfl) dX4_omits_4 rfl rfl ?_
  refine V.if_eq (pc := 7) C (tgt := 20) dX4_omits_7 (by decide) (fun c3 => ?_) (fun c3 => ?_)
  · have hs := o_if c3 hs
    refine V.bipush (pc := 20) C (v := (-2 : Int32)) dX4_omits_20 (by decide) ?_
    exact V.iret (pc := 22) C T hs dX4_omits_22
  · have hs := o_el c3 hs
    refine V.aload_n (pc := 10) C dX4_omits_10 0 rfl ?_
    refine V.getf (pc := 11) C (o := 0) (j := 4) (v := .ref 12) (by decide) rfl rfl inX4 (by decide) (by decide) wf_199 rfl dX4_omits_11 ?_
    obtain ⟨v5, h4, ch4, hs⟩ := o_b2 hs
    refine V.callV (pc := 14) C (o := 12) (rm := rmX1_leaveOut) (y := yX1_leaveOut) (bytes := cX1_leaveOut) (maxL := 1) (ret := (some .int)) (n := 0) (As := []) (rest := []) (rv := (some (.int v5))) (h1 := h4) (st0 := [.ref 12]) (st2 := [.int v5]) (by decide) rfl rfl (ct_X1_leaveOut (kL k) ch4) wf_385 wf_386 wf_387 wf_53 wf_388 rfl rfl (by decide +kernel) ⟨by decide, by decide⟩ rfl (Nat.le_of_ble_eq_true rfl) dX4_omits_14 rfl rfl ?_
    refine V.goto (pc := 17) C (tgt := 22) dX4_omits_17 (by decide) ?_
    exact V.iret (pc := 22) C T hs dX4_omits_22
abbrev rmX1_shrink : Room := { frames := 2, cells := 0, slots := 0, locals := 59 }
set_option maxRecDepth 20000 in
theorem ct_X1_shrink (l : Launch) {x1 : Int32} {h hf : Hp} {r : Int32} (hs : X1_shrink x1 h = some (r, hf)) : Ct l yX1_shrink (Cond.code yX1_shrink cX1_shrink 3 (some .int) :: wsG) rmX1_shrink [.ref 12, .int x1] h (some (.int r)) hf := by
  refine Ct.of (by decide +kernel) (fun _ => Nat.le_of_ble_eq_true rfl) (fun k C T => ?_)
  unfold X1_shrink at hs
  show V k rmX1_shrink 3 0 [(0, .ref 12), (1, .int x1)] [] h
  refine V.aload_n (pc := 0) C dX1_shrink_0 0 rfl ?_
  obtain ⟨h1, ch1, hs⟩ := o_bind hs
  refine V.callV (pc := 1) C (o := 12) (rm := rmX1_remember) (y := yX1_remember) (bytes := cX1_remember) (maxL := 2) (ret := none) (n := 0) (As := []) (rest := []) (rv := none) (h1 := h1) (st0 := [.ref 12]) (st2 := []) (by decide) rfl rfl (ct_X1_remember (kL k) ch1) wf_363 wf_365 wf_8 wf_53 wf_366 rfl rfl (by decide +kernel) ⟨by decide, by decide⟩ rfl (Nat.le_of_ble_eq_true rfl) dX1_shrink_1 rfl rfl ?_
  refine V.aload_n (pc := 4) C dX1_shrink_4 0 rfl ?_
  refine V.getf (pc := 5) C (o := 12) (j := 4) (v := .int (h1.1 12 4)) (by decide) rfl rfl inX1 (by decide) (by decide) wf_171 rfl dX1_shrink_5 ?_
  refine V.istore_n (pc := 8) C (i := 2) (lv2 := [(2, .int (h1.1 12 4)), (0, .ref 12), (1, .int x1)]) dX1_shrink_8 rfl (by decide) rfl ?_
  refine V.aload_n (pc := 9) C dX1_shrink_9 1 rfl ?_
  refine V.iload_n (pc := 10) C dX1_shrink_10 2 rfl ?_
  refine V.put (pc := 11) C (o := 12) (j := 4) (v := x1) (by decide) rfl rfl inX1 (by decide) (by decide) wf_171 tyX1 tyX1_ok nmX1 rfl rfl rfl rfl dX1_shrink_11 ?_
  refine V.iload_n (pc := 14) C dX1_shrink_14 0 rfl ?_
  exact V.iret (pc := 15) C T hs dX1_shrink_15
abbrev rmX4_smaller : Room := { frames := 3, cells := 0, slots := 0, locals := 81 }
set_option maxRecDepth 20000 in
theorem ct_X4_smaller (l : Launch) {x1 : Int32} {h hf : Hp} {r : Int32} (hs : X4_smaller x1 h = some (r, hf)) : Ct l yX4_smaller (Cond.code yX4_smaller cX4_smaller 2 (some .int) :: wsG) rmX4_smaller [.ref 0, .int x1] h (some (.int r)) hf := by
  refine Ct.of (by decide +kernel) (fun _ => Nat.le_of_ble_eq_true rfl) (fun k C T => ?_)
  unfold X4_smaller at hs
  show V k rmX4_smaller 2 0 [(0, .ref 0), (1, .int x1)] [] h
  refine V.iload_n (pc := 0) C dX4_smaller_0 1 rfl ?_
  refine V.iconst (pc := 1) C (v := (1 : Int32)) dX4_smaller_1 (by decide) ?_
  refine V.iconst (pc := 2) C (v := (5 : Int32)) dX4_smaller_2 (by decide) ?_
  obtain ⟨v2, h1, ch1, hs⟩ := o_b2 hs
  refine V.callS (pc := 3) C (rm := rmX4_within) (y := yX4_within) (bytes := cX4_within) (maxL := 3) (ret := (some .boolean)) (n := 3) (As := [.int x1, .int (1 : Int32), .int (5 : Int32)]) (rest := []) (rv := (some (.int v2))) (h1 := h1) (st0 := [.int (5 : Int32), .int (1 : Int32), .int x1]) (st2 := [.int v2]) (ct_X4_within (kL k) ch1) wf_236 wf_237 wf_49 wf_238 rfl rfl (by decide +kernel) ⟨by decide, by decide⟩ rfl (Nat.le_of_ble_eq_true rfl) dX4_smaller_3 rfl rfl ?_
  refine V.if_ne (pc := 6) C (tgt := 11) dX4_smaller_6 (by decide) (fun c3 => ?_) (fun c3 => ?_)
  · have hs := o_el c3 hs
    refine V.iload_n (pc := 11) C dX4_smaller_11 1 rfl ?_
    refine V.aload_n (pc := 12) C dX4_smaller_12 0 rfl ?_
    refine V.getf (pc := 13) C (o := 0) (j := 4) (v := .ref 12) (by decide) rfl rfl inX4 (by decide) (by decide) wf_199 rfl dX4_smaller_13 ?_
    refine V.getN (pc := 16) C (o := 12) (j := 4) (v := .int (h1.1 12 4)) (by decide) rfl rfl inX1 (by decide) (by decide) nw_18 rfl dX4_smaller_16 ?_
    refine V.icmp_ge (pc := 19) C (tgt := 33) dX4_smaller_19 (by decide) (fun c4 => ?_) (fun c4 => ?_)
    · have hs := o_if c4 hs
      refine V.bipush (pc := 33) C (v := (-2 : Int32)) dX4_smaller_33 (by decide) ?_
      exact V.iret (pc := 35) C T hs dX4_smaller_35
    · have hs := o_el c4 hs
      refine V.iload_n (pc := 22) C dX4_smaller_22 1 rfl ?_
      refine V.aload_n (pc := 23) C dX4_smaller_23 0 rfl ?_
      refine V.getf (pc := 24) C (o := 0) (j := 1) (v := .ref 4) (by decide) rfl rfl inX4 (by decide) (by decide) wf_196 rfl dX4_smaller_24 ?_
      refine V.getN (pc := 27) C (o := 4) (j := 4) (v := .int (h1.1 4 4)) (by decide) rfl rfl inX3 (by decide) (by decide) nw_12 rfl dX4_smaller_27 ?_
      refine V.icmp_ge (pc := 30) C (tgt := 36) dX4_smaller_30 (by decide) (fun c5 => ?_) (fun c5 => ?_)
      · have hs := o_if c5 hs
        refine V.aload_n (pc := 36) C dX4_smaller_36 0 rfl ?_
        refine V.getf (pc := 37) C (o := 0) (j := 4) (v := .ref 12) (by decide) rfl rfl inX4 (by decide) (by decide) wf_199 rfl dX4_smaller_37 ?_
        refine V.iload_n (pc := 40) C dX4_smaller_40 1 rfl ?_
        obtain ⟨v7, h6, ch6, hs⟩ := o_b2 hs
        refine V.callV (pc := 41) C (o := 12) (rm := rmX1_shrink) (y := yX1_shrink) (bytes := cX1_shrink) (maxL := 3) (ret := (some .int)) (n := 1) (As := [.int x1]) (rest := []) (rv := (some (.int v7))) (h1 := h6) (st0 := [.int x1, .ref 12]) (st2 := [.int v7]) (by decide) rfl rfl (ct_X1_shrink (kL k) ch6) wf_399 wf_400 wf_401 wf_53 wf_402 rfl rfl (by decide +kernel) ⟨by decide, by decide⟩ rfl (Nat.le_of_ble_eq_true rfl) dX4_smaller_41 rfl rfl ?_
        exact V.iret (pc := 44) C T hs dX4_smaller_44
      · have hs := o_el c5 hs
        refine V.bipush (pc := 33) C (v := (-2 : Int32)) dX4_smaller_33 (by decide) ?_
        exact V.iret (pc := 35) C T hs dX4_smaller_35
  · have hs := o_if c3 hs
    refine V.iconst (pc := 9) C (v := (-1 : Int32)) dX4_smaller_9 (by decide) ?_
    exact V.iret (pc := 10) C T hs dX4_smaller_10
abbrev rmX1_turn : Room := { frames := 3, cells := 0, slots := 0, locals := 64 }
set_option maxRecDepth 20000 in
theorem ct_X1_turn (l : Launch) {h hf : Hp} {r : Int32} (hs : X1_turn h = some (r, hf)) : Ct l yX1_turn (Cond.code yX1_turn cX1_turn 1 (some .int) :: wsG) rmX1_turn [.ref 12] h (some (.int r)) hf := by
  refine Ct.of (by decide +kernel) (fun _ => Nat.le_of_ble_eq_true rfl) (fun k C T => ?_)
  unfold X1_turn at hs
  show V k rmX1_turn 1 0 [(0, .ref 12)] [] h
  refine V.aload_n (pc := 0) C dX1_turn_0 0 rfl ?_
  obtain ⟨h1, ch1, hs⟩ := o_bind hs
  refine V.callV (pc := 1) C (o := 12) (rm := rmX1_remember) (y := yX1_remember) (bytes := cX1_remember) (maxL := 2) (ret := none) (n := 0) (As := []) (rest := []) (rv := none) (h1 := h1) (st0 := [.ref 12]) (st2 := []) (by decide) rfl rfl (ct_X1_remember (kL k) ch1) wf_363 wf_365 wf_8 wf_53 wf_366 rfl rfl (by decide +kernel) ⟨by decide, by decide⟩ rfl (Nat.le_of_ble_eq_true rfl) dX1_turn_1 rfl rfl ?_
  refine V.aload_n (pc := 4) C dX1_turn_4 0 rfl ?_
  refine V.dup (pc := 5) C dX1_turn_5 rfl ?_
  refine V.getf (pc := 6) C (o := 12) (j := 2) (v := .int (h1.1 12 2)) (by decide) rfl rfl inX1 (by decide) (by decide) wf_167 rfl dX1_turn_6 ?_
  refine V.iconst (pc := 9) C (v := (1 : Int32)) dX1_turn_9 (by decide) ?_
  refine V.iadd (pc := 10) C dX1_turn_10 ?_
  refine V.put (pc := 11) C (o := 12) (j := 2) (v := ((h1.1 12 2) + (1 : Int32))) (by decide) rfl rfl inX1 (by decide) (by decide) wf_167 tyX1 tyX1_ok nmX1 rfl rfl rfl rfl dX1_turn_11 ?_
  refine V.aload_n (pc := 14) C dX1_turn_14 0 rfl ?_
  refine V.aload_n (pc := 15) C dX1_turn_15 0 rfl ?_
  refine V.getf (pc := 16) C (o := 12) (j := 0) (v := .ref 4) (by decide) rfl rfl inX1 (by decide) (by decide) wf_164 rfl dX1_turn_16 ?_
  refine V.aload_n (pc := 19) C dX1_turn_19 0 rfl ?_
  refine V.getf (pc := 20) C (o := 12) (j := 2) (v := .int ((h1.1 12 2) + (1 : Int32))) (by decide) rfl rfl inX1 (by decide) (by decide) wf_167 rfl dX1_turn_20 ?_
  obtain ⟨v3, h2, ch2, hs⟩ := o_b2 hs
  refine V.callV (pc := 23) C (o := 4) (rm := rmX3_wideOf) (y := yX3_wideOf) (bytes := cX3_wideOf) (maxL := 2) (ret := (some .int)) (n := 1) (As := [.int ((h1.1 12 2) + (1 : Int32))]) (rest := [.ref 12]) (rv := (some (.int v3))) (h1 := h2) (st0 := [.int ((h1.1 12 2) + (1 : Int32)), .ref 4, .ref 12]) (st2 := [.int v3, .ref 12]) (by decide) rfl rfl (ct_X3_wideOf (kL k) ch2) wf_315 wf_316 wf_317 wf_51 wf_318 rfl rfl (by decide +kernel) ⟨by decide, by decide⟩ rfl (Nat.le_of_ble_eq_true rfl) dX1_turn_23 rfl rfl ?_
  refine V.put (pc := 26) C (o := 12) (j := 3) (v := v3) (by decide) rfl rfl inX1 (by decide) (by decide) wf_169 tyX1 tyX1_ok nmX1 rfl rfl rfl rfl dX1_turn_26 ?_
  refine V.aload_n (pc := 29) C dX1_turn_29 0 rfl ?_
  refine V.getf (pc := 30) C (o := 12) (j := 2) (v := .int (h2.1 12 2)) (by decide) rfl rfl inX1 (by decide) (by decide) wf_167 rfl dX1_turn_30 ?_
  exact V.iret (pc := 33) C T hs dX1_turn_33
abbrev rmX4_turnsOver : Room := { frames := 4, cells := 0, slots := 0, locals := 84 }
set_option maxRecDepth 20000 in
theorem ct_X4_turnsOver (l : Launch) {h hf : Hp} {r : Int32} (hs : X4_turnsOver h = some (r, hf)) : Ct l yX4_turnsOver (Cond.code yX4_turnsOver cX4_turnsOver 1 (some .int) :: wsG) rmX4_turnsOver [.ref 0] h (some (.int r)) hf := by
  refine Ct.of (by decide +kernel) (fun _ => Nat.le_of_ble_eq_true rfl) (fun k C T => ?_)
  unfold X4_turnsOver at hs
  show V k rmX4_turnsOver 1 0 [(0, .ref 0)] [] h
  refine V.aload_n (pc := 0) C dX4_turnsOver_0 0 rfl ?_
  refine V.getf (pc := 1) C (o := 0) (j := 1) (v := .ref 4) (by decide) rfl rfl inX4 (by decide) (by decide) wf_196 rfl dX4_turnsOver_1 ?_
  refine V.aload_n (pc := 4) C dX4_turnsOver_4 0 rfl ?_
  refine V.getf (pc := 5) C (o := 0) (j := 4) (v := .ref 12) (by decide) rfl rfl inX4 (by decide) (by decide) wf_199 rfl dX4_turnsOver_5 ?_
  refine V.getN (pc := 8) C (o := 12) (j := 2) (v := .int (h.1 12 2)) (by decide) rfl rfl inX1 (by decide) (by decide) nw_16 rfl dX4_turnsOver_8 ?_
  refine V.iconst (pc := 11) C (v := (1 : Int32)) dX4_turnsOver_11 (by decide) ?_
  refine V.iadd (pc := 12) C dX4_turnsOver_12 ?_
  obtain ⟨v2, h1, ch1, hs⟩ := o_b2 hs
  refine V.callV (pc := 13) C (o := 4) (rm := rmX3_hasLine) (y := yX3_hasLine) (bytes := cX3_hasLine) (maxL := 2) (ret := (some .boolean)) (n := 1) (As := [.int ((h.1 12 2) + (1 : Int32))]) (rest := []) (rv := (some (.int v2))) (h1 := h1) (st0 := [.int ((h.1 12 2) + (1 : Int32)), .ref 4]) (st2 := [.int v2]) (by decide) rfl rfl (ct_X3_hasLine (kL k) ch1) wf_327 wf_320 wf_321 wf_51 wf_322 rfl rfl (by decide +kernel) ⟨by decide, by decide⟩ rfl (Nat.le_of_ble_eq_true rfl) dX4_turnsOver_13 rfl rfl ?_
  refine V.if_eq (pc := 16) C (tgt := 29) dX4_turnsOver_16 (by decide) (fun c3 => ?_) (fun c3 => ?_)
  · have hs := o_if c3 hs
    refine V.bipush (pc := 29) C (v := (-2 : Int32)) dX4_turnsOver_29 (by decide) ?_
    exact V.iret (pc := 31) C T hs dX4_turnsOver_31
  · have hs := o_el c3 hs
    refine V.aload_n (pc := 19) C dX4_turnsOver_19 0 rfl ?_
    refine V.getf (pc := 20) C (o := 0) (j := 4) (v := .ref 12) (by decide) rfl rfl inX4 (by decide) (by decide) wf_199 rfl dX4_turnsOver_20 ?_
    obtain ⟨v5, h4, ch4, hs⟩ := o_b2 hs
    refine V.callV (pc := 23) C (o := 12) (rm := rmX1_turn) (y := yX1_turn) (bytes := cX1_turn) (maxL := 1) (ret := (some .int)) (n := 0) (As := []) (rest := []) (rv := (some (.int v5))) (h1 := h4) (st0 := [.ref 12]) (st2 := [.int v5]) (by decide) rfl rfl (ct_X1_turn (kL k) ch4) wf_407 wf_408 wf_409 wf_53 wf_410 rfl rfl (by decide +kernel) ⟨by decide, by decide⟩ rfl (Nat.le_of_ble_eq_true rfl) dX4_turnsOver_23 rfl rfl ?_
    refine V.goto (pc := 26) C (tgt := 31) dX4_turnsOver_26 (by decide) ?_
    exact V.iret (pc := 31) C T hs dX4_turnsOver_31
abbrev rmX1_takeBack : Room := { frames := 0, cells := 0, slots := 0, locals := 0 }
set_option maxRecDepth 20000 in
theorem ct_X1_takeBack (l : Launch) {h hf : Hp} {r : Int32} (hs : X1_takeBack h = some (r, hf)) : Ct l yX1_takeBack (Cond.code yX1_takeBack cX1_takeBack 2 (some .int) :: wsG) rmX1_takeBack [.ref 12] h (some (.int r)) hf := by
  refine Ct.of (by decide +kernel) (fun _ => Nat.le_of_ble_eq_true rfl) (fun k C T => ?_)
  unfold X1_takeBack at hs
  show V k rmX1_takeBack 2 0 [(0, .ref 12)] [] h
  refine V.aload_n (pc := 0) C dX1_takeBack_0 0 rfl ?_
  refine V.getf (pc := 1) C (o := 12) (j := 7) (v := .int (h.1 12 7)) (by decide) rfl rfl inX1 (by decide) (by decide) wf_176 rfl dX1_takeBack_1 ?_
  refine V.if_le (pc := 4) C (tgt := 82) dX1_takeBack_4 (by decide) (fun c1 => ?_) (fun c1 => ?_)
  · have hs := o_if c1 hs
    refine V.aload_n (pc := 82) C dX1_takeBack_82 0 rfl ?_
    refine V.getf (pc := 83) C (o := 12) (j := 7) (v := .int (h.1 12 7)) (by decide) rfl rfl inX1 (by decide) (by decide) wf_176 rfl dX1_takeBack_83 ?_
    exact V.iret (pc := 86) C T hs dX1_takeBack_86
  · have hs := o_el c1 hs
    refine V.aload_n (pc := 7) C dX1_takeBack_7 0 rfl ?_
    refine V.dup (pc := 8) C dX1_takeBack_8 rfl ?_
    refine V.getf (pc := 9) C (o := 12) (j := 7) (v := .int (h.1 12 7)) (by decide) rfl rfl inX1 (by decide) (by decide) wf_176 rfl dX1_takeBack_9 ?_
    refine V.iconst (pc := 12) C (v := (1 : Int32)) dX1_takeBack_12 (by decide) ?_
    refine V.isub (pc := 13) C dX1_takeBack_13 ?_
    refine V.put (pc := 14) C (o := 12) (j := 7) (v := ((h.1 12 7) - (1 : Int32))) (by decide) rfl rfl inX1 (by decide) (by decide) wf_176 tyX1 tyX1_ok nmX1 rfl rfl rfl rfl dX1_takeBack_14 ?_
    refine V.aload_n (pc := 17) C dX1_takeBack_17 0 rfl ?_
    refine V.getf (pc := 18) C (o := 12) (j := 7) (v := .int ((h.1 12 7) - (1 : Int32))) (by decide) rfl rfl inX1 (by decide) (by decide) wf_176 rfl dX1_takeBack_18 ?_
    refine V.iconst (pc := 21) C (v := (5 : Int32)) dX1_takeBack_21 (by decide) ?_
    refine V.imul (pc := 22) C dX1_takeBack_22 ?_
    refine V.istore_n (pc := 23) C (i := 1) (lv2 := [(1, .int (((h.1 12 7) - (1 : Int32)) * (5 : Int32))), (0, .ref 12)]) dX1_takeBack_23 rfl (by decide) rfl ?_
    refine V.aload_n (pc := 24) C dX1_takeBack_24 1 rfl ?_
    refine V.aload_n (pc := 25) C dX1_takeBack_25 1 rfl ?_
    refine V.getf (pc := 26) C (o := 12) (j := 6) (v := .ref 13) (by decide) rfl rfl inX1 (by decide) (by decide) wf_175 rfl dX1_takeBack_26 ?_
    refine V.iload_n (pc := 29) C dX1_takeBack_29 0 rfl ?_
    obtain ⟨v2, ev2, bv2, hs⟩ := o_ld hs
    refine V.iald (pc := 30) C (o := 13) (v := v2) (by decide) rfl rfl bv2 ev2 dX1_takeBack_30 ?_
    refine V.put (pc := 31) C (o := 12) (j := 1) (v := v2) (by decide) rfl rfl inX1 (by decide) (by decide) wf_165 tyX1 tyX1_ok nmX1 rfl rfl rfl rfl dX1_takeBack_31 ?_
    refine V.aload_n (pc := 34) C dX1_takeBack_34 1 rfl ?_
    refine V.aload_n (pc := 35) C dX1_takeBack_35 1 rfl ?_
    refine V.getf (pc := 36) C (o := 12) (j := 6) (v := .ref 13) (by decide) rfl rfl inX1 (by decide) (by decide) wf_175 rfl dX1_takeBack_36 ?_
    refine V.iload_n (pc := 39) C dX1_takeBack_39 0 rfl ?_
    refine V.iconst (pc := 40) C (v := (1 : Int32)) dX1_takeBack_40 (by decide) ?_
    refine V.iadd (pc := 41) C dX1_takeBack_41 ?_
    obtain ⟨v3, ev3, bv3, hs⟩ := o_ld hs
    refine V.iald (pc := 42) C (o := 13) (v := v3) (by decide) rfl rfl bv3 ev3 dX1_takeBack_42 ?_
    refine V.put (pc := 43) C (o := 12) (j := 2) (v := v3) (by decide) rfl rfl inX1 (by decide) (by decide) wf_167 tyX1 tyX1_ok nmX1 rfl rfl rfl rfl dX1_takeBack_43 ?_
    refine V.aload_n (pc := 46) C dX1_takeBack_46 1 rfl ?_
    refine V.aload_n (pc := 47) C dX1_takeBack_47 1 rfl ?_
    refine V.getf (pc := 48) C (o := 12) (j := 6) (v := .ref 13) (by decide) rfl rfl inX1 (by decide) (by decide) wf_175 rfl dX1_takeBack_48 ?_
    refine V.iload_n (pc := 51) C dX1_takeBack_51 0 rfl ?_
    refine V.iconst (pc := 52) C (v := (2 : Int32)) dX1_takeBack_52 (by decide) ?_
    refine V.iadd (pc := 53) C dX1_takeBack_53 ?_
    obtain ⟨v4, ev4, bv4, hs⟩ := o_ld hs
    refine V.iald (pc := 54) C (o := 13) (v := v4) (by decide) rfl rfl bv4 ev4 dX1_takeBack_54 ?_
    refine V.put (pc := 55) C (o := 12) (j := 3) (v := v4) (by decide) rfl rfl inX1 (by decide) (by decide) wf_169 tyX1 tyX1_ok nmX1 rfl rfl rfl rfl dX1_takeBack_55 ?_
    refine V.aload_n (pc := 58) C dX1_takeBack_58 1 rfl ?_
    refine V.aload_n (pc := 59) C dX1_takeBack_59 1 rfl ?_
    refine V.getf (pc := 60) C (o := 12) (j := 6) (v := .ref 13) (by decide) rfl rfl inX1 (by decide) (by decide) wf_175 rfl dX1_takeBack_60 ?_
    refine V.iload_n (pc := 63) C dX1_takeBack_63 0 rfl ?_
    refine V.iconst (pc := 64) C (v := (3 : Int32)) dX1_takeBack_64 (by decide) ?_
    refine V.iadd (pc := 65) C dX1_takeBack_65 ?_
    obtain ⟨v5, ev5, bv5, hs⟩ := o_ld hs
    refine V.iald (pc := 66) C (o := 13) (v := v5) (by decide) rfl rfl bv5 ev5 dX1_takeBack_66 ?_
    refine V.put (pc := 67) C (o := 12) (j := 4) (v := v5) (by decide) rfl rfl inX1 (by decide) (by decide) wf_171 tyX1 tyX1_ok nmX1 rfl rfl rfl rfl dX1_takeBack_67 ?_
    refine V.aload_n (pc := 70) C dX1_takeBack_70 1 rfl ?_
    refine V.aload_n (pc := 71) C dX1_takeBack_71 1 rfl ?_
    refine V.getf (pc := 72) C (o := 12) (j := 6) (v := .ref 13) (by decide) rfl rfl inX1 (by decide) (by decide) wf_175 rfl dX1_takeBack_72 ?_
    refine V.iload_n (pc := 75) C dX1_takeBack_75 0 rfl ?_
    refine V.iconst (pc := 76) C (v := (4 : Int32)) dX1_takeBack_76 (by decide) ?_
    refine V.iadd (pc := 77) C dX1_takeBack_77 ?_
    obtain ⟨v6, ev6, bv6, hs⟩ := o_ld hs
    refine V.iald (pc := 78) C (o := 13) (v := v6) (by decide) rfl rfl bv6 ev6 dX1_takeBack_78 ?_
    refine V.put (pc := 79) C (o := 12) (j := 5) (v := v6) (by decide) rfl rfl inX1 (by decide) (by decide) wf_173 tyX1 tyX1_ok nmX1 rfl rfl rfl rfl dX1_takeBack_79 ?_
    refine V.aload_n (pc := 82) C dX1_takeBack_82 1 rfl ?_
    refine V.getf (pc := 83) C (o := 12) (j := 7) (v := .int ((h.1 12 7) - (1 : Int32))) (by decide) rfl rfl inX1 (by decide) (by decide) wf_176 rfl dX1_takeBack_83 ?_
    exact V.iret (pc := 86) C T hs dX1_takeBack_86
abbrev rmX4_undo : Room := { frames := 1, cells := 0, slots := 0, locals := 21 }
set_option maxRecDepth 20000 in
theorem ct_X4_undo (l : Launch) {h hf : Hp} {r : Int32} (hs : X4_undo h = some (r, hf)) : Ct l yX4_undo (Cond.code yX4_undo cX4_undo 1 (some .int) :: wsG) rmX4_undo [.ref 0] h (some (.int r)) hf := by
  refine Ct.of (by decide +kernel) (fun _ => Nat.le_of_ble_eq_true rfl) (fun k C T => ?_)
  unfold X4_undo at hs
  show V k rmX4_undo 1 0 [(0, .ref 0)] [] h
  refine V.aload_n (pc := 0) C dX4_undo_0 0 rfl ?_
  refine V.getf (pc := 1) C (o := 0) (j := 4) (v := .ref 12) (by decide) rfl rfl inX4 (by decide) (by decide) wf_199 rfl dX4_undo_1 ?_
  refine V.getN (pc := 4) C (o := 12) (j := 7) (v := .int (h.1 12 7)) (by decide) rfl rfl inX1 (by decide) (by decide) nw_20 rfl dX4_undo_4 ?_
  refine V.if_le (pc := 7) C (tgt := 20) dX4_undo_7 (by decide) (fun c1 => ?_) (fun c1 => ?_)
  · have hs := o_if c1 hs
    refine V.bipush (pc := 20) C (v := (-2 : Int32)) dX4_undo_20 (by decide) ?_
    exact V.iret (pc := 22) C T hs dX4_undo_22
  · have hs := o_el c1 hs
    refine V.aload_n (pc := 10) C dX4_undo_10 0 rfl ?_
    refine V.getf (pc := 11) C (o := 0) (j := 4) (v := .ref 12) (by decide) rfl rfl inX4 (by decide) (by decide) wf_199 rfl dX4_undo_11 ?_
    obtain ⟨v3, h2, ch2, hs⟩ := o_b2 hs
    refine V.callV (pc := 14) C (o := 12) (rm := rmX1_takeBack) (y := yX1_takeBack) (bytes := cX1_takeBack) (maxL := 2) (ret := (some .int)) (n := 0) (As := []) (rest := []) (rv := (some (.int v3))) (h1 := h2) (st0 := [.ref 12]) (st2 := [.int v3]) (by decide) rfl rfl (ct_X1_takeBack (kL k) ch2) wf_415 wf_416 wf_417 wf_53 wf_418 rfl rfl (by decide +kernel) ⟨by decide, by decide⟩ rfl (Nat.le_of_ble_eq_true rfl) dX4_undo_14 rfl rfl ?_
    refine V.goto (pc := 17) C (tgt := 22) dX4_undo_17 (by decide) ?_
    exact V.iret (pc := 22) C T hs dX4_undo_22
abbrev rmX3_needsAny : Room := { frames := 3, cells := 0, slots := 0, locals := 65 }
set_option maxRecDepth 20000 in
theorem ct_X3_needsAny (l : Launch) {x1 : Int32} {h hf : Hp} {r : Int32} (hs : X3_needsAny x1 h = some (r, hf)) : Ct l yX3_needsAny (Cond.code yX3_needsAny cX3_needsAny 2 (some .boolean) :: wsG) rmX3_needsAny [.ref 4, .int x1] h (some (.int r)) hf := by
  refine Ct.of (by decide +kernel) (fun _ => Nat.le_of_ble_eq_true rfl) (fun k C T => ?_)
  unfold X3_needsAny at hs
  show V k rmX3_needsAny 2 0 [(0, .ref 4), (1, .int x1)] [] h
  refine V.aload_n (pc := 0) C dX3_needsAny_0 0 rfl ?_
  refine V.iload_n (pc := 1) C dX3_needsAny_1 1 rfl ?_
  refine V.iconst (pc := 2) C (v := (2 : Int32)) dX3_needsAny_2 (by decide) ?_
  obtain ⟨v2, h1, ch1, hs⟩ := o_b2 hs
  refine V.callV (pc := 3) C (o := 4) (rm := rmX3_of) (y := yX3_of) (bytes := cX3_of) (maxL := 3) (ret := (some .int)) (n := 2) (As := [.int x1, .int (2 : Int32)]) (rest := []) (rv := (some (.int v2))) (h1 := h1) (st0 := [.int (2 : Int32), .int x1, .ref 4]) (st2 := [.int v2]) (by decide) rfl rfl (ct_X3_of (kL k) ch1) wf_431 wf_335 wf_336 wf_51 wf_337 rfl rfl (by decide +kernel) ⟨by decide, by decide⟩ rfl (Nat.le_of_ble_eq_true rfl) dX3_needsAny_3 rfl rfl ?_
  refine V.bipush (pc := 6) C (v := (99 : Int32)) dX3_needsAny_6 (by decide) ?_
  refine V.icmp_eq (pc := 8) C (tgt := 15) dX3_needsAny_8 (by decide) (fun c3 => ?_) (fun c3 => ?_)
  · have hs := o_if c3 hs
    refine V.iconst (pc := 15) C (v := (0 : Int32)) dX3_needsAny_15 (by decide) ?_
    exact V.zret (pc := 16) C T (by decide) hs dX3_needsAny_16
  · have hs := o_el c3 hs
    refine V.iconst (pc := 11) C (v := (1 : Int32)) dX3_needsAny_11 (by decide) ?_
    refine V.goto (pc := 12) C (tgt := 16) dX3_needsAny_12 (by decide) ?_
    exact V.zret (pc := 16) C T (by decide) hs dX3_needsAny_16
abbrev rmX4_makingSense : Room := { frames := 4, cells := 0, slots := 0, locals := 86 }
set_option maxRecDepth 20000 in
theorem tb_X4_makingSense_73 {k : KX} (C : Cx k cX4_makingSense RX4 4 rmX4_makingSense) {r : Int32} {hf : Hp} (T : Rx k (some .int) (some (.int r)) hf) {K4 : Int32 → Int32 → Hp → Option (Int32 × Hp)} (hK4 : ∀ (x1 : Int32) (x2 : Int32) (h : Hp), K4 x1 x2 h = some (r, hf) → V k rmX4_makingSense 4 4 [(0, .ref 0), (1, .int x1), (2, .int x2)] [] h) (x1 : Int32) (x2 : Int32) (h : Hp) (hs : X4_makingSense_b73 K4 x1 x2 h = some (r, hf)) : V k rmX4_makingSense 4 73 [(0, .ref 0), (1, .int x1), (2, .int x2)] [] h := by
  unfold X4_makingSense_b73 at hs
  refine V.iinc (pc := 73) C (j := 2) (v := (x2 + (1 : Int32))) (lv2 := [(2, .int (x2 + (1 : Int32))), (0, .ref 0), (1, .int x1)]) dX4_makingSense_73 rfl rfl (by decide) rfl ?_
  refine V.goto (pc := 76) C (tgt := 4) dX4_makingSense_76 (by decide) ?_
  refine V.sub [1, 2, 0] rfl ?_
  exact hK4 _ _ _ hs
set_option maxRecDepth 20000 in
theorem tb_X4_makingSense_48 {k : KX} (C : Cx k cX4_makingSense RX4 4 rmX4_makingSense) {r : Int32} {hf : Hp} (T : Rx k (some .int) (some (.int r)) hf) {K4 : Int32 → Int32 → Hp → Option (Int32 × Hp)} (hK4 : ∀ (x1 : Int32) (x2 : Int32) (h : Hp), K4 x1 x2 h = some (r, hf) → V k rmX4_makingSense 4 4 [(0, .ref 0), (1, .int x1), (2, .int x2)] [] h) (x1 : Int32) (x2 : Int32) (s0 : Int32) (h : Hp) (hs : X4_makingSense_b48 K4 x1 x2 s0 h = some (r, hf)) : V k rmX4_makingSense 4 48 [(0, .ref 0), (1, .int x1), (2, .int x2)] [.int s0] h := by
  unfold X4_makingSense_b48 at hs
  refine V.istore_n (pc := 48) C (i := 3) (lv2 := [(3, .int s0), (0, .ref 0), (1, .int x1), (2, .int x2)]) dX4_makingSense_48 rfl (by decide) rfl ?_
  refine V.aload_n (pc := 49) C dX4_makingSense_49 1 rfl ?_
  refine V.getf (pc := 50) C (o := 0) (j := 4) (v := .ref 12) (by decide) rfl rfl inX4 (by decide) (by decide) wf_199 rfl dX4_makingSense_50 ?_
  refine V.getN (pc := 53) C (o := 12) (j := 5) (v := .int (h.1 12 5)) (by decide) rfl rfl inX1 (by decide) (by decide) nw_19 rfl dX4_makingSense_53 ?_
  refine V.iload_n (pc := 56) C dX4_makingSense_56 3 rfl ?_
  obtain ⟨v11, h10, ch10, hs⟩ := o_b2 hs
  refine V.callS (pc := 57) C (rm := rmX4_bit) (y := yX4_bit) (bytes := cX4_bit) (maxL := 2) (ret := (some .int)) (n := 2) (As := [.int (h.1 12 5), .int x2]) (rest := []) (rv := (some (.int v11))) (h1 := h10) (st0 := [.int x2, .int (h.1 12 5)]) (st2 := [.int v11]) (ct_X4_bit (kL k) ch10) wf_339 wf_340 wf_49 wf_341 rfl rfl (by decide +kernel) ⟨by decide, by decide⟩ rfl (Nat.le_of_ble_eq_true rfl) dX4_makingSense_57 rfl rfl ?_
  refine V.if_ne (pc := 60) C (tgt := 73) dX4_makingSense_60 (by decide) (fun c12 => ?_) (fun c12 => ?_)
  · have hs := o_el c12 hs
    refine V.sub [1, 2, 3] rfl ?_
    exact tb_X4_makingSense_73 C T hK4 _ _ _ hs
  · have hs := o_if c12 hs
    refine V.iload_n (pc := 63) C dX4_makingSense_63 0 rfl ?_
    refine V.if_eq (pc := 64) C (tgt := 73) dX4_makingSense_64 (by decide) (fun c13 => ?_) (fun c13 => ?_)
    · have hs := o_if c13 hs
      refine V.sub [1, 2, 3] rfl ?_
      exact tb_X4_makingSense_73 C T hK4 _ _ _ hs
    · have hs := o_el c13 hs
      refine V.iload_n (pc := 67) C dX4_makingSense_67 2 rfl ?_
      refine V.iconst (pc := 68) C (v := (1 : Int32)) dX4_makingSense_68 (by decide) ?_
      refine V.iload_n (pc := 69) C dX4_makingSense_69 3 rfl ?_
      refine V.ishl (pc := 70) C dX4_makingSense_70 ?_
      refine V.ior (pc := 71) C dX4_makingSense_71 ?_
      refine V.istore_n (pc := 72) C (i := 1) (lv2 := [(1, .int (x1 ||| ((1 : Int32) <<< (x2 &&& 31)))), (3, .int s0), (0, .ref 0), (2, .int x2)]) dX4_makingSense_72 rfl (by decide) rfl ?_
      refine V.sub [2, 0, 3] rfl ?_
      exact tb_X4_makingSense_73 C T hK4 _ _ _ hs
set_option maxRecDepth 20000 in
theorem tb_X4_makingSense_43 {k : KX} (C : Cx k cX4_makingSense RX4 4 rmX4_makingSense) {r : Int32} {hf : Hp} (T : Rx k (some .int) (some (.int r)) hf) {K4 : Int32 → Int32 → Hp → Option (Int32 × Hp)} (hK4 : ∀ (x1 : Int32) (x2 : Int32) (h : Hp), K4 x1 x2 h = some (r, hf) → V k rmX4_makingSense 4 4 [(0, .ref 0), (1, .int x1), (2, .int x2)] [] h) (x1 : Int32) (x2 : Int32) (h : Hp) (hs : X4_makingSense_b43 K4 x1 x2 h = some (r, hf)) : V k rmX4_makingSense 4 43 [(0, .ref 0), (1, .int x1), (2, .int x2)] [] h := by
  unfold X4_makingSense_b43 at hs
  refine V.iconst (pc := 43) C (v := (1 : Int32)) dX4_makingSense_43 (by decide) ?_
  refine V.goto (pc := 44) C (tgt := 48) dX4_makingSense_44 (by decide) ?_
  refine V.sub [0, 1, 2] rfl ?_
  exact tb_X4_makingSense_48 C T hK4 _ _ _ _ hs
set_option maxRecDepth 20000 in
theorem tb_X4_makingSense_4 {k : KX} (C : Cx k cX4_makingSense RX4 4 rmX4_makingSense) {r : Int32} {hf : Hp} (T : Rx k (some .int) (some (.int r)) hf) {K4 : Int32 → Int32 → Hp → Option (Int32 × Hp)} (hK4 : ∀ (x1 : Int32) (x2 : Int32) (h : Hp), K4 x1 x2 h = some (r, hf) → V k rmX4_makingSense 4 4 [(0, .ref 0), (1, .int x1), (2, .int x2)] [] h) (x1 : Int32) (x2 : Int32) (h : Hp) (hs : X4_makingSense_b4 K4 x1 x2 h = some (r, hf)) : V k rmX4_makingSense 4 4 [(0, .ref 0), (1, .int x1), (2, .int x2)] [] h := by
  unfold X4_makingSense_b4 at hs
  refine V.iload_n (pc := 4) C dX4_makingSense_4 2 rfl ?_
  refine V.aload_n (pc := 5) C dX4_makingSense_5 0 rfl ?_
  refine V.getf (pc := 6) C (o := 0) (j := 4) (v := .ref 12) (by decide) rfl rfl inX4 (by decide) (by decide) wf_199 rfl dX4_makingSense_6 ?_
  refine V.getN (pc := 9) C (o := 12) (j := 1) (v := .int (h.1 12 1)) (by decide) rfl rfl inX1 (by decide) (by decide) nw_15 rfl dX4_makingSense_9 ?_
  refine V.icmp_ge (pc := 12) C (tgt := 79) dX4_makingSense_12 (by decide) (fun c1 => ?_) (fun c1 => ?_)
  · have hs := o_if c1 hs
    refine V.iload_n (pc := 79) C dX4_makingSense_79 1 rfl ?_
    exact V.iret (pc := 80) C T hs dX4_makingSense_80
  · have hs := o_el c1 hs
    refine V.aload_n (pc := 15) C dX4_makingSense_15 0 rfl ?_
    refine V.getf (pc := 16) C (o := 0) (j := 1) (v := .ref 4) (by decide) rfl rfl inX4 (by decide) (by decide) wf_196 rfl dX4_makingSense_16 ?_
    refine V.iload_n (pc := 19) C dX4_makingSense_19 2 rfl ?_
    obtain ⟨v3, h2, ch2, hs⟩ := o_b2 hs
    refine V.callV (pc := 20) C (o := 4) (rm := rmX3_needsAny) (y := yX3_needsAny) (bytes := cX3_needsAny) (maxL := 2) (ret := (some .boolean)) (n := 1) (As := [.int x2]) (rest := []) (rv := (some (.int v3))) (h1 := h2) (st0 := [.int x2, .ref 4]) (st2 := [.int v3]) (by decide) rfl rfl (ct_X3_needsAny (kL k) ch2) wf_427 wf_428 wf_429 wf_51 wf_430 rfl rfl (by decide +kernel) ⟨by decide, by decide⟩ rfl (Nat.le_of_ble_eq_true rfl) dX4_makingSense_20 rfl rfl ?_
    refine V.if_eq (pc := 23) C (tgt := 43) dX4_makingSense_23 (by decide) (fun c4 => ?_) (fun c4 => ?_)
    · have hs := o_if c4 hs
      refine V.sub [0, 1, 2] rfl ?_
      exact tb_X4_makingSense_43 C T hK4 _ _ _ hs
    · have hs := o_el c4 hs
      refine V.iload_n (pc := 26) C dX4_makingSense_26 1 rfl ?_
      refine V.aload_n (pc := 27) C dX4_makingSense_27 0 rfl ?_
      refine V.getf (pc := 28) C (o := 0) (j := 1) (v := .ref 4) (by decide) rfl rfl inX4 (by decide) (by decide) wf_196 rfl dX4_makingSense_28 ?_
      refine V.iload_n (pc := 31) C dX4_makingSense_31 2 rfl ?_
      refine V.iconst (pc := 32) C (v := (2 : Int32)) dX4_makingSense_32 (by decide) ?_
      obtain ⟨v6, h5, ch5, hs⟩ := o_b2 hs
      refine V.callV (pc := 33) C (o := 4) (rm := rmX3_of) (y := yX3_of) (bytes := cX3_of) (maxL := 3) (ret := (some .int)) (n := 2) (As := [.int x2, .int (2 : Int32)]) (rest := [.int x1]) (rv := (some (.int v6))) (h1 := h5) (st0 := [.int (2 : Int32), .int x2, .ref 4, .int x1]) (st2 := [.int v6, .int x1]) (by decide) rfl rfl (ct_X3_of (kL k) ch5) wf_334 wf_335 wf_336 wf_51 wf_337 rfl rfl (by decide +kernel) ⟨by decide, by decide⟩ rfl (Nat.le_of_ble_eq_true rfl) dX4_makingSense_33 rfl rfl ?_
      obtain ⟨v8, h7, ch7, hs⟩ := o_b2 hs
      refine V.callS (pc := 36) C (rm := rmX4_bit) (y := yX4_bit) (bytes := cX4_bit) (maxL := 2) (ret := (some .int)) (n := 2) (As := [.int x1, .int v6]) (rest := []) (rv := (some (.int v8))) (h1 := h7) (st0 := [.int v6, .int x1]) (st2 := [.int v8]) (ct_X4_bit (kL k) ch7) wf_339 wf_340 wf_49 wf_341 rfl rfl (by decide +kernel) ⟨by decide, by decide⟩ rfl (Nat.le_of_ble_eq_true rfl) dX4_makingSense_36 rfl rfl ?_
      refine V.iconst (pc := 39) C (v := (1 : Int32)) dX4_makingSense_39 (by decide) ?_
      refine V.icmp_ne (pc := 40) C (tgt := 47) dX4_makingSense_40 (by decide) (fun c9 => ?_) (fun c9 => ?_)
      · have hs := o_el c9 hs
        refine V.iconst (pc := 47) C (v := (0 : Int32)) dX4_makingSense_47 (by decide) ?_
        refine V.sub [0, 1, 2] rfl ?_
        exact tb_X4_makingSense_48 C T hK4 _ _ _ _ hs
      · have hs := o_if c9 hs
        refine V.sub [0, 1, 2] rfl ?_
        exact tb_X4_makingSense_43 C T hK4 _ _ _ hs
theorem tl_X4_makingSense_4 {k : KX} (C : Cx k cX4_makingSense RX4 4 rmX4_makingSense) {r : Int32} {hf : Hp} (T : Rx k (some .int) (some (.int r)) hf) : ∀ (n : Nat) (x1 : Int32) (x2 : Int32) (h : Hp), X4_makingSense_l4 n x1 x2 h = some (r, hf) → V k rmX4_makingSense 4 4 [(0, .ref 0), (1, .int x1), (2, .int x2)] [] h := by
  intro n
  induction n with
  | zero => intro x1 x2 h hs; cases hs
  | succ n ih => intro x1 x2 h hs; exact tb_X4_makingSense_4 C T ih x1 x2 h hs
set_option maxRecDepth 20000 in
theorem ct_X4_makingSense (l : Launch) {h hf : Hp} {r : Int32} (hs : X4_makingSense h = some (r, hf)) : Ct l yX4_makingSense (Cond.code yX4_makingSense cX4_makingSense 4 (some .int) :: wsG) rmX4_makingSense [.ref 0] h (some (.int r)) hf := by
  refine Ct.of (by decide +kernel) (fun _ => Nat.le_of_ble_eq_true rfl) (fun k C T => ?_)
  unfold X4_makingSense at hs
  show V k rmX4_makingSense 4 0 [(0, .ref 0)] [] h
  refine V.iconst (pc := 0) C (v := (0 : Int32)) dX4_makingSense_0 (by decide) ?_
  refine V.istore_n (pc := 1) C (i := 1) (lv2 := [(1, .int (0 : Int32)), (0, .ref 0)]) dX4_makingSense_1 rfl (by decide) rfl ?_
  refine V.iconst (pc := 2) C (v := (0 : Int32)) dX4_makingSense_2 (by decide) ?_
  refine V.istore_n (pc := 3) C (i := 2) (lv2 := [(2, .int (0 : Int32)), (1, .int (0 : Int32)), (0, .ref 0)]) dX4_makingSense_3 rfl (by decide) rfl ?_
  refine V.sub [2, 1, 0] rfl ?_
  exact tl_X4_makingSense_4 C T fu _ _ _ hs
