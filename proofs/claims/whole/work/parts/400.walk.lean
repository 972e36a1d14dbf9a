abbrev rmX5_in : Room := { frames := 0, cells := 0, slots := 0, locals := 0 }
set_option maxRecDepth 20000 in
theorem ct_X5_in (l : Launch) {x0 : Int32} {x1 : Int32} {x2 : Int32} {h hf : Hp} {r : Int32} (hs : X5_in x0 x1 x2 h = some (r, hf)) : Ct l yX5_in (Cond.code yX5_in cX5_in 3 (some .boolean) :: wsG) rmX5_in [.int x0, .int x1, .int x2] h (some (.int r)) hf := by
  refine Ct.of (by decide +kernel) (fun _ => Nat.le_of_ble_eq_true rfl) (fun k C T => ?_)
  unfold X5_in at hs
  show V k rmX5_in 3 0 [(0, .int x0), (1, .int x1), (2, .int x2)] [] h
  refine V.iload_n (pc := 0) C dX5_in_0 0 rfl ?_
  refine V.iload_n (pc := 1) C dX5_in_1 1 rfl ?_
  refine V.icmp_lt (pc := 2) C (tgt := 14) dX5_in_2 (by decide) (fun c1 => ?_) (fun c1 => ?_)
  · have hs := o_if c1 hs
    refine V.iconst (pc := 14) C (v := (0 : Int32)) dX5_in_14 (by decide) ?_
    exact V.zret (pc := 15) C T (by decide) hs dX5_in_15
  · have hs := o_el c1 hs
    refine V.iload_n (pc := 5) C dX5_in_5 0 rfl ?_
    refine V.iload_n (pc := 6) C dX5_in_6 2 rfl ?_
    refine V.icmp_gt (pc := 7) C (tgt := 14) dX5_in_7 (by decide) (fun c2 => ?_) (fun c2 => ?_)
    · have hs := o_if c2 hs
      refine V.iconst (pc := 14) C (v := (0 : Int32)) dX5_in_14 (by decide) ?_
      exact V.zret (pc := 15) C T (by decide) hs dX5_in_15
    · have hs := o_el c2 hs
      refine V.iconst (pc := 10) C (v := (1 : Int32)) dX5_in_10 (by decide) ?_
      refine V.goto (pc := 11) C (tgt := 15) dX5_in_11 (by decide) ?_
      exact V.zret (pc := 15) C T (by decide) hs dX5_in_15
abbrev rmX5_type : Room := { frames := 1, cells := 0, slots := 0, locals := 22 }
set_option maxRecDepth 20000 in
theorem ct_X5_type (l : Launch) {x1 : Int32} {h hf : Hp} {r : Int32} (hs : X5_type x1 h = some (r, hf)) : Ct l yX5_type (Cond.code yX5_type cX5_type 2 (some .int) :: wsG) rmX5_type [.ref 20, .int x1] h (some (.int r)) hf := by
  refine Ct.of (by decide +kernel) (fun _ => Nat.le_of_ble_eq_true rfl) (fun k C T => ?_)
  unfold X5_type at hs
  show V k rmX5_type 2 0 [(0, .ref 20), (1, .int x1)] [] h
  refine V.iload_n (pc := 0) C dX5_type_0 1 rfl ?_
  refine V.iconst (pc := 1) C (v := (0 : Int32)) dX5_type_1 (by decide) ?_
  refine V.sipush (pc := 2) C (v := (255 : Int32)) dX5_type_2 (by decide) ?_
  obtain ⟨v2, h1, ch1, hs⟩ := o_b2 hs
  refine V.callS (pc := 5) C (rm := rmX5_in) (y := yX5_in) (bytes := cX5_in) (maxL := 3) (ret := (some .boolean)) (n := 3) (As := [.int x1, .int (0 : Int32), .int (255 : Int32)]) (rest := []) (rv := (some (.int v2))) (h1 := h1) (st0 := [.int (255 : Int32), .int (0 : Int32), .int x1]) (st2 := [.int v2]) (ct_X5_in (kL k) ch1) wf_693 wf_694 wf_54 wf_695 rfl rfl (by decide +kernel) ⟨by decide, by decide⟩ rfl (Nat.le_of_ble_eq_true rfl) dX5_type_5 rfl rfl ?_
  refine V.if_ne (pc := 8) C (tgt := 13) dX5_type_8 (by decide) (fun c3 => ?_) (fun c3 => ?_)
  · have hs := o_el c3 hs
    refine V.aload_n (pc := 13) C dX5_type_13 0 rfl ?_
    refine V.getf (pc := 14) C (o := 20) (j := 2) (v := .int (h1.1 20 2)) (by decide) rfl rfl inX5 (by decide) (by decide) wf_607 rfl dX5_type_14 ?_
    refine V.sipush (pc := 17) C (v := (200 : Int32)) dX5_type_17 (by decide) ?_
    refine V.icmp_ne (pc := 20) C (tgt := 26) dX5_type_20 (by decide) (fun c4 => ?_) (fun c4 => ?_)
    · have hs := o_el c4 hs
      refine V.aload_n (pc := 26) C dX5_type_26 0 rfl ?_
      refine V.getf (pc := 27) C (o := 20) (j := 1) (v := .ref 21) (by decide) rfl rfl inX5 (by decide) (by decide) wf_606 rfl dX5_type_27 ?_
      refine V.aload_n (pc := 30) C dX5_type_30 0 rfl ?_
      refine V.getf (pc := 31) C (o := 20) (j := 2) (v := .int (h1.1 20 2)) (by decide) rfl rfl inX5 (by decide) (by decide) wf_607 rfl dX5_type_31 ?_
      refine V.iload_n (pc := 34) C dX5_type_34 1 rfl ?_
      refine V.i2b (pc := 35) C dX5_type_35 ?_
      obtain ⟨h5, eh5, bh5, hs⟩ := o_st hs
      refine V.bast (pc := 36) C (o := 21) (w := (vp_nar .byte x1.toInt8.toInt32)) (h2 := h5) (by decide) rfl rfl bh5 rfl eh5 dX5_type_36 ?_
      refine V.aload_n (pc := 37) C dX5_type_37 0 rfl ?_
      refine V.dup (pc := 38) C dX5_type_38 rfl ?_
      refine V.getf (pc := 39) C (o := 20) (j := 2) (v := .int (h5.1 20 2)) (by decide) rfl rfl inX5 (by decide) (by decide) wf_607 rfl dX5_type_39 ?_
      refine V.iconst (pc := 42) C (v := (1 : Int32)) dX5_type_42 (by decide) ?_
      refine V.iadd (pc := 43) C dX5_type_43 ?_
      refine V.put (pc := 44) C (o := 20) (j := 2) (v := ((h5.1 20 2) + (1 : Int32))) (by decide) rfl rfl inX5 (by decide) (by decide) wf_607 tyX5 tyX5_ok nmX5 rfl rfl rfl rfl dX5_type_44 ?_
      refine V.aload_n (pc := 47) C dX5_type_47 0 rfl ?_
      refine V.getf (pc := 48) C (o := 20) (j := 2) (v := .int ((h5.1 20 2) + (1 : Int32))) (by decide) rfl rfl inX5 (by decide) (by decide) wf_607 rfl dX5_type_48 ?_
      exact V.iret (pc := 51) C T hs dX5_type_51
    · have hs := o_if c4 hs
      refine V.bipush (pc := 23) C (v := (-3 : Int32)) dX5_type_23 (by decide) ?_
      exact V.iret (pc := 25) C T hs dX5_type_25
  · have hs := o_if c3 hs
    refine V.iconst (pc := 11) C (v := (-1 : Int32)) dX5_type_11 (by decide) ?_
    exact V.iret (pc := 12) C T hs dX5_type_12
abbrev rmX5_clear : Room := { frames := 0, cells := 0, slots := 0, locals := 0 }
set_option maxRecDepth 20000 in
theorem ct_X5_clear (l : Launch) {h hf : Hp} {r : Int32} (hs : X5_clear h = some (r, hf)) : Ct l yX5_clear (Cond.code yX5_clear cX5_clear 2 (some .int) :: wsG) rmX5_clear [.ref 20] h (some (.int r)) hf := by
  refine Ct.of (by decide +kernel) (fun _ => Nat.le_of_ble_eq_true rfl) (fun k C T => ?_)
  unfold X5_clear at hs
  show V k rmX5_clear 2 0 [(0, .ref 20)] [] h
  refine V.aload_n (pc := 0) C dX5_clear_0 0 rfl ?_
  refine V.getf (pc := 1) C (o := 20) (j := 2) (v := .int (h.1 20 2)) (by decide) rfl rfl inX5 (by decide) (by decide) wf_607 rfl dX5_clear_1 ?_
  refine V.istore_n (pc := 4) C (i := 1) (lv2 := [(1, .int (h.1 20 2)), (0, .ref 20)]) dX5_clear_4 rfl (by decide) rfl ?_
  refine V.aload_n (pc := 5) C dX5_clear_5 1 rfl ?_
  refine V.iconst (pc := 6) C (v := (0 : Int32)) dX5_clear_6 (by decide) ?_
  refine V.put (pc := 7) C (o := 20) (j := 2) (v := (0 : Int32)) (by decide) rfl rfl inX5 (by decide) (by decide) wf_607 tyX5 tyX5_ok nmX5 rfl rfl rfl rfl dX5_clear_7 ?_
  refine V.iload_n (pc := 10) C dX5_clear_10 0 rfl ?_
  exact V.iret (pc := 11) C T hs dX5_clear_11
abbrev rmX5_here : Room := { frames := 0, cells := 0, slots := 0, locals := 0 }
set_option maxRecDepth 20000 in
theorem ct_X5_here (l : Launch) {h hf : Hp} {r : Int32} (hs : X5_here h = some (r, hf)) : Ct l yX5_here (Cond.code yX5_here cX5_here 1 (some .int) :: wsG) rmX5_here [.ref 20] h (some (.int r)) hf := by
  refine Ct.of (by decide +kernel) (fun _ => Nat.le_of_ble_eq_true rfl) (fun k C T => ?_)
  unfold X5_here at hs
  show V k rmX5_here 1 0 [(0, .ref 20)] [] h
  refine V.aload_n (pc := 0) C dX5_here_0 0 rfl ?_
  refine V.getf (pc := 1) C (o := 20) (j := 8) (v := .int (h.1 20 8)) (by decide) rfl rfl inX5 (by decide) (by decide) wf_613 rfl dX5_here_1 ?_
  refine V.aload_n (pc := 4) C dX5_here_4 0 rfl ?_
  refine V.getf (pc := 5) C (o := 20) (j := 2) (v := .int (h.1 20 2)) (by decide) rfl rfl inX5 (by decide) (by decide) wf_607 rfl dX5_here_5 ?_
  refine V.icmp_ge (pc := 8) C (tgt := 27) dX5_here_8 (by decide) (fun c1 => ?_) (fun c1 => ?_)
  · have hs := o_if c1 hs
    refine V.iconst (pc := 27) C (v := (-1 : Int32)) dX5_here_27 (by decide) ?_
    exact V.iret (pc := 28) C T hs dX5_here_28
  · have hs := o_el c1 hs
    refine V.aload_n (pc := 11) C dX5_here_11 0 rfl ?_
    refine V.getf (pc := 12) C (o := 20) (j := 1) (v := .ref 21) (by decide) rfl rfl inX5 (by decide) (by decide) wf_606 rfl dX5_here_12 ?_
    refine V.aload_n (pc := 15) C dX5_here_15 0 rfl ?_
    refine V.getf (pc := 16) C (o := 20) (j := 8) (v := .int (h.1 20 8)) (by decide) rfl rfl inX5 (by decide) (by decide) wf_613 rfl dX5_here_16 ?_
    obtain ⟨v2, ev2, bv2, hs⟩ := o_ld hs
    refine V.bald (pc := 19) C (o := 21) (v := v2) (by decide) rfl rfl bv2 ev2 dX5_here_19 ?_
    refine V.sipush (pc := 20) C (v := (255 : Int32)) dX5_here_20 (by decide) ?_
    refine V.iand (pc := 23) C dX5_here_23 ?_
    refine V.goto (pc := 24) C (tgt := 28) dX5_here_24 (by decide) ?_
    exact V.iret (pc := 28) C T hs dX5_here_28
abbrev rmX5_next : Room := { frames := 1, cells := 0, slots := 0, locals := 22 }
set_option maxRecDepth 20000 in
theorem tb_X5_next_63 {k : KX} (C : Cx k cX5_next RX5 2 rmX5_next) {hf : Hp} (T : Rx k none none hf) {K63 : Int32 → Hp → Option (Hp)} (hK63 : ∀ (x1 : Int32) (h : Hp), K63 x1 h = some hf → V k rmX5_next 2 63 [(0, .ref 20), (1, .int x1)] [] h) (x1 : Int32) (h : Hp) (hs : X5_next_b63 K63 x1 h = some hf) : V k rmX5_next 2 63 [(0, .ref 20), (1, .int x1)] [] h := by
  unfold X5_next_b63 at hs
  refine V.aload_n (pc := 63) C dX5_next_63 0 rfl ?_
  obtain ⟨v26, h25, ch25, hs⟩ := o_b2 hs
  refine V.callV (pc := 64) C (o := 20) (rm := rmX5_here) (y := yX5_here) (bytes := cX5_here) (maxL := 1) (ret := (some .int)) (n := 0) (As := []) (rest := []) (rv := (some (.int v26))) (h1 := h25) (st0 := [.ref 20]) (st2 := [.int v26]) (by decide) rfl rfl (ct_X5_here (kL k) ch25) wf_708 wf_710 wf_23 wf_54 wf_711 rfl rfl (by decide +kernel) ⟨by decide, by decide⟩ rfl (Nat.le_of_ble_eq_true rfl) dX5_next_64 rfl rfl ?_
  refine V.bipush (pc := 67) C (v := (97 : Int32)) dX5_next_67 (by decide) ?_
  refine V.bipush (pc := 69) C (v := (122 : Int32)) dX5_next_69 (by decide) ?_
  obtain ⟨v28, h27, ch27, hs⟩ := o_b2 hs
  refine V.callS (pc := 71) C (rm := rmX5_in) (y := yX5_in) (bytes := cX5_in) (maxL := 3) (ret := (some .boolean)) (n := 3) (As := [.int v26, .int (97 : Int32), .int (122 : Int32)]) (rest := []) (rv := (some (.int v28))) (h1 := h27) (st0 := [.int (122 : Int32), .int (97 : Int32), .int v26]) (st2 := [.int v28]) (ct_X5_in (kL k) ch27) wf_693 wf_694 wf_54 wf_695 rfl rfl (by decide +kernel) ⟨by decide, by decide⟩ rfl (Nat.le_of_ble_eq_true rfl) dX5_next_71 rfl rfl ?_
  refine V.if_eq (pc := 74) C (tgt := 90) dX5_next_74 (by decide) (fun c29 => ?_) (fun c29 => ?_)
  · have hs := o_if c29 hs
    refine V.aload_n (pc := 90) C dX5_next_90 0 rfl ?_
    refine V.aload_n (pc := 91) C dX5_next_91 0 rfl ?_
    refine V.getf (pc := 92) C (o := 20) (j := 8) (v := .int (h27.1 20 8)) (by decide) rfl rfl inX5 (by decide) (by decide) wf_613 rfl dX5_next_92 ?_
    refine V.aload_n (pc := 95) C dX5_next_95 0 rfl ?_
    refine V.getf (pc := 96) C (o := 20) (j := 9) (v := .int (h27.1 20 9)) (by decide) rfl rfl inX5 (by decide) (by decide) wf_614 rfl dX5_next_96 ?_
    refine V.isub (pc := 99) C dX5_next_99 ?_
    refine V.iconst (pc := 100) C (v := (1 : Int32)) dX5_next_100 (by decide) ?_
    refine V.icmp_ne (pc := 101) C (tgt := 108) dX5_next_101 (by decide) (fun c30 => ?_) (fun c30 => ?_)
    · have hs := o_el c30 hs
      refine V.iconst (pc := 108) C (v := (4 : Int32)) dX5_next_108 (by decide) ?_
      refine V.put (pc := 109) C (o := 20) (j := 10) (v := (4 : Int32)) (by decide) rfl rfl inX5 (by decide) (by decide) wf_615 tyX5 tyX5_ok nmX5 rfl rfl rfl rfl dX5_next_109 ?_
      refine V.goto (pc := 112) C (tgt := 253) dX5_next_112 (by decide) ?_
      exact V.vret (pc := 253) C T hs dX5_next_253
    · have hs := o_if c30 hs
      refine V.iload_n (pc := 104) C dX5_next_104 1 rfl ?_
      refine V.goto (pc := 105) C (tgt := 109) dX5_next_105 (by decide) ?_
      refine V.put (pc := 109) C (o := 20) (j := 10) (v := x1) (by decide) rfl rfl inX5 (by decide) (by decide) wf_615 tyX5 tyX5_ok nmX5 rfl rfl rfl rfl dX5_next_109 ?_
      refine V.goto (pc := 112) C (tgt := 253) dX5_next_112 (by decide) ?_
      exact V.vret (pc := 253) C T hs dX5_next_253
  · have hs := o_el c29 hs
    refine V.aload_n (pc := 77) C dX5_next_77 0 rfl ?_
    refine V.dup (pc := 78) C dX5_next_78 rfl ?_
    refine V.getf (pc := 79) C (o := 20) (j := 8) (v := .int (h27.1 20 8)) (by decide) rfl rfl inX5 (by decide) (by decide) wf_613 rfl dX5_next_79 ?_
    refine V.iconst (pc := 82) C (v := (1 : Int32)) dX5_next_82 (by decide) ?_
    refine V.iadd (pc := 83) C dX5_next_83 ?_
    refine V.put (pc := 84) C (o := 20) (j := 8) (v := ((h27.1 20 8) + (1 : Int32))) (by decide) rfl rfl inX5 (by decide) (by decide) wf_613 tyX5 tyX5_ok nmX5 rfl rfl rfl rfl dX5_next_84 ?_
    refine V.goto (pc := 87) C (tgt := 63) dX5_next_87 (by decide) ?_
    refine V.sub [0, 1] rfl ?_
    exact hK63 _ _ hs
theorem tl_X5_next_63 {k : KX} (C : Cx k cX5_next RX5 2 rmX5_next) {hf : Hp} (T : Rx k none none hf) : ∀ (n : Nat) (x1 : Int32) (h : Hp), X5_next_l63 n x1 h = some hf → V k rmX5_next 2 63 [(0, .ref 20), (1, .int x1)] [] h := by
  intro n
  induction n with
  | zero => intro x1 h hs; cases hs
  | succ n ih => intro x1 h hs; exact tb_X5_next_63 C T ih x1 h hs
set_option maxRecDepth 20000 in
theorem tb_X5_next_172 {k : KX} (C : Cx k cX5_next RX5 2 rmX5_next) {hf : Hp} (T : Rx k none none hf) {K126 : Int32 → Hp → Option (Hp)} (hK126 : ∀ (x1 : Int32) (h : Hp), K126 x1 h = some hf → V k rmX5_next 2 126 [(0, .ref 20), (1, .int x1)] [] h) (x1 : Int32) (s1 : Int32) (h : Hp) (hs : X5_next_b172 K126 x1 s1 h = some hf) : V k rmX5_next 2 172 [(0, .ref 20), (1, .int x1)] [.int s1, .ref 20] h := by
  unfold X5_next_b172 at hs
  refine V.put (pc := 172) C (o := 20) (j := 11) (v := s1) (by decide) rfl rfl inX5 (by decide) (by decide) wf_616 tyX5 tyX5_ok nmX5 rfl rfl rfl rfl dX5_next_172 ?_
  refine V.aload_n (pc := 175) C dX5_next_175 0 rfl ?_
  refine V.dup (pc := 176) C dX5_next_176 rfl ?_
  refine V.getf (pc := 177) C (o := 20) (j := 8) (v := .int (h.1 20 8)) (by decide) rfl rfl inX5 (by decide) (by decide) wf_613 rfl dX5_next_177 ?_
  refine V.iconst (pc := 180) C (v := (1 : Int32)) dX5_next_180 (by decide) ?_
  refine V.iadd (pc := 181) C dX5_next_181 ?_
  refine V.put (pc := 182) C (o := 20) (j := 8) (v := ((h.1 20 8) + (1 : Int32))) (by decide) rfl rfl inX5 (by decide) (by decide) wf_613 tyX5 tyX5_ok nmX5 rfl rfl rfl rfl dX5_next_182 ?_
  refine V.goto (pc := 185) C (tgt := 126) dX5_next_185 (by decide) ?_
  refine V.sub [0, 1] rfl ?_
  exact hK126 _ _ hs
set_option maxRecDepth 20000 in
theorem tb_X5_next_126 {k : KX} (C : Cx k cX5_next RX5 2 rmX5_next) {hf : Hp} (T : Rx k none none hf) {K126 : Int32 → Hp → Option (Hp)} (hK126 : ∀ (x1 : Int32) (h : Hp), K126 x1 h = some hf → V k rmX5_next 2 126 [(0, .ref 20), (1, .int x1)] [] h) (x1 : Int32) (h : Hp) (hs : X5_next_b126 K126 x1 h = some hf) : V k rmX5_next 2 126 [(0, .ref 20), (1, .int x1)] [] h := by
  unfold X5_next_b126 at hs
  refine V.aload_n (pc := 126) C dX5_next_126 0 rfl ?_
  obtain ⟨v15, h14, ch14, hs⟩ := o_b2 hs
  refine V.callV (pc := 127) C (o := 20) (rm := rmX5_here) (y := yX5_here) (bytes := cX5_here) (maxL := 1) (ret := (some .int)) (n := 0) (As := []) (rest := []) (rv := (some (.int v15))) (h1 := h14) (st0 := [.ref 20]) (st2 := [.int v15]) (by decide) rfl rfl (ct_X5_here (kL k) ch14) wf_708 wf_710 wf_23 wf_54 wf_711 rfl rfl (by decide +kernel) ⟨by decide, by decide⟩ rfl (Nat.le_of_ble_eq_true rfl) dX5_next_127 rfl rfl ?_
  refine V.bipush (pc := 130) C (v := (48 : Int32)) dX5_next_130 (by decide) ?_
  refine V.bipush (pc := 132) C (v := (57 : Int32)) dX5_next_132 (by decide) ?_
  obtain ⟨v17, h16, ch16, hs⟩ := o_b2 hs
  refine V.callS (pc := 134) C (rm := rmX5_in) (y := yX5_in) (bytes := cX5_in) (maxL := 3) (ret := (some .boolean)) (n := 3) (As := [.int v15, .int (48 : Int32), .int (57 : Int32)]) (rest := []) (rv := (some (.int v17))) (h1 := h16) (st0 := [.int (57 : Int32), .int (48 : Int32), .int v15]) (st2 := [.int v17]) (ct_X5_in (kL k) ch16) wf_693 wf_694 wf_54 wf_695 rfl rfl (by decide +kernel) ⟨by decide, by decide⟩ rfl (Nat.le_of_ble_eq_true rfl) dX5_next_134 rfl rfl ?_
  refine V.if_eq (pc := 137) C (tgt := 188) dX5_next_137 (by decide) (fun c18 => ?_) (fun c18 => ?_)
  · have hs := o_if c18 hs
    refine V.aload_n (pc := 188) C dX5_next_188 0 rfl ?_
    refine V.aload_n (pc := 189) C dX5_next_189 0 rfl ?_
    refine V.getf (pc := 190) C (o := 20) (j := 11) (v := .int (h16.1 20 11)) (by decide) rfl rfl inX5 (by decide) (by decide) wf_616 rfl dX5_next_190 ?_
    refine V.bipush (pc := 193) C (v := (99 : Int32)) dX5_next_193 (by decide) ?_
    refine V.icmp_gt (pc := 195) C (tgt := 217) dX5_next_195 (by decide) (fun c19 => ?_) (fun c19 => ?_)
    · have hs := o_if c19 hs
      refine V.iconst (pc := 217) C (v := (4 : Int32)) dX5_next_217 (by decide) ?_
      refine V.goto (pc := 218) C (tgt := 222) dX5_next_218 (by decide) ?_
      refine V.put (pc := 222) C (o := 20) (j := 10) (v := (4 : Int32)) (by decide) rfl rfl inX5 (by decide) (by decide) wf_615 tyX5 tyX5_ok nmX5 rfl rfl rfl rfl dX5_next_222 ?_
      refine V.goto (pc := 225) C (tgt := 253) dX5_next_225 (by decide) ?_
      exact V.vret (pc := 253) C T hs dX5_next_253
    · have hs := o_el c19 hs
      refine V.iload_n (pc := 198) C dX5_next_198 1 rfl ?_
      refine V.bipush (pc := 199) C (v := (48 : Int32)) dX5_next_199 (by decide) ?_
      refine V.icmp_ne (pc := 201) C (tgt := 221) dX5_next_201 (by decide) (fun c20 => ?_) (fun c20 => ?_)
      · have hs := o_el c20 hs
        refine V.iconst (pc := 221) C (v := (1 : Int32)) dX5_next_221 (by decide) ?_
        refine V.put (pc := 222) C (o := 20) (j := 10) (v := (1 : Int32)) (by decide) rfl rfl inX5 (by decide) (by decide) wf_615 tyX5 tyX5_ok nmX5 rfl rfl rfl rfl dX5_next_222 ?_
        refine V.goto (pc := 225) C (tgt := 253) dX5_next_225 (by decide) ?_
        exact V.vret (pc := 253) C T hs dX5_next_253
      · have hs := o_if c20 hs
        refine V.aload_n (pc := 204) C dX5_next_204 0 rfl ?_
        refine V.getf (pc := 205) C (o := 20) (j := 8) (v := .int (h16.1 20 8)) (by decide) rfl rfl inX5 (by decide) (by decide) wf_613 rfl dX5_next_205 ?_
        refine V.aload_n (pc := 208) C dX5_next_208 0 rfl ?_
        refine V.getf (pc := 209) C (o := 20) (j := 9) (v := .int (h16.1 20 9)) (by decide) rfl rfl inX5 (by decide) (by decide) wf_614 rfl dX5_next_209 ?_
        refine V.isub (pc := 212) C dX5_next_212 ?_
        refine V.iconst (pc := 213) C (v := (1 : Int32)) dX5_next_213 (by decide) ?_
        refine V.icmp_le (pc := 214) C (tgt := 221) dX5_next_214 (by decide) (fun c21 => ?_) (fun c21 => ?_)
        · have hs := o_if c21 hs
          refine V.iconst (pc := 221) C (v := (1 : Int32)) dX5_next_221 (by decide) ?_
          refine V.put (pc := 222) C (o := 20) (j := 10) (v := (1 : Int32)) (by decide) rfl rfl inX5 (by decide) (by decide) wf_615 tyX5 tyX5_ok nmX5 rfl rfl rfl rfl dX5_next_222 ?_
          refine V.goto (pc := 225) C (tgt := 253) dX5_next_225 (by decide) ?_
          exact V.vret (pc := 253) C T hs dX5_next_253
        · have hs := o_el c21 hs
          refine V.iconst (pc := 217) C (v := (4 : Int32)) dX5_next_217 (by decide) ?_
          refine V.goto (pc := 218) C (tgt := 222) dX5_next_218 (by decide) ?_
          refine V.put (pc := 222) C (o := 20) (j := 10) (v := (4 : Int32)) (by decide) rfl rfl inX5 (by decide) (by decide) wf_615 tyX5 tyX5_ok nmX5 rfl rfl rfl rfl dX5_next_222 ?_
          refine V.goto (pc := 225) C (tgt := 253) dX5_next_225 (by decide) ?_
          exact V.vret (pc := 253) C T hs dX5_next_253
  · have hs := o_el c18 hs
    refine V.aload_n (pc := 140) C dX5_next_140 0 rfl ?_
    refine V.aload_n (pc := 141) C dX5_next_141 0 rfl ?_
    refine V.getf (pc := 142) C (o := 20) (j := 11) (v := .int (h16.1 20 11)) (by decide) rfl rfl inX5 (by decide) (by decide) wf_616 rfl dX5_next_142 ?_
    refine V.bipush (pc := 145) C (v := (99 : Int32)) dX5_next_145 (by decide) ?_
    refine V.icmp_le (pc := 147) C (tgt := 157) dX5_next_147 (by decide) (fun c22 => ?_) (fun c22 => ?_)
    · have hs := o_if c22 hs
      refine V.bipush (pc := 157) C (v := (10 : Int32)) dX5_next_157 (by decide) ?_
      refine V.aload_n (pc := 159) C dX5_next_159 0 rfl ?_
      refine V.getf (pc := 160) C (o := 20) (j := 11) (v := .int (h16.1 20 11)) (by decide) rfl rfl inX5 (by decide) (by decide) wf_616 rfl dX5_next_160 ?_
      refine V.imul (pc := 163) C dX5_next_163 ?_
      refine V.aload_n (pc := 164) C dX5_next_164 0 rfl ?_
      obtain ⟨v24, h23, ch23, hs⟩ := o_b2 hs
      refine V.callV (pc := 165) C (o := 20) (rm := rmX5_here) (y := yX5_here) (bytes := cX5_here) (maxL := 1) (ret := (some .int)) (n := 0) (As := []) (rest := [.int ((10 : Int32) * (h16.1 20 11)), .ref 20]) (rv := (some (.int v24))) (h1 := h23) (st0 := [.ref 20, .int ((10 : Int32) * (h16.1 20 11)), .ref 20]) (st2 := [.int v24, .int ((10 : Int32) * (h16.1 20 11)), .ref 20]) (by decide) rfl rfl (ct_X5_here (kL k) ch23) wf_708 wf_710 wf_23 wf_54 wf_711 rfl rfl (by decide +kernel) ⟨by decide, by decide⟩ rfl (Nat.le_of_ble_eq_true rfl) dX5_next_165 rfl rfl ?_
      refine V.iadd (pc := 168) C dX5_next_168 ?_
      refine V.bipush (pc := 169) C (v := (48 : Int32)) dX5_next_169 (by decide) ?_
      refine V.isub (pc := 171) C dX5_next_171 ?_
      refine V.sub [0, 1] rfl ?_
      exact tb_X5_next_172 C T hK126 _ _ _ hs
    · have hs := o_el c22 hs
      refine V.aload_n (pc := 150) C dX5_next_150 0 rfl ?_
      refine V.getf (pc := 151) C (o := 20) (j := 11) (v := .int (h16.1 20 11)) (by decide) rfl rfl inX5 (by decide) (by decide) wf_616 rfl dX5_next_151 ?_
      refine V.goto (pc := 154) C (tgt := 172) dX5_next_154 (by decide) ?_
      refine V.sub [0, 1] rfl ?_
      exact tb_X5_next_172 C T hK126 _ _ _ hs
theorem tl_X5_next_126 {k : KX} (C : Cx k cX5_next RX5 2 rmX5_next) {hf : Hp} (T : Rx k none none hf) : ∀ (n : Nat) (x1 : Int32) (h : Hp), X5_next_l126 n x1 h = some hf → V k rmX5_next 2 126 [(0, .ref 20), (1, .int x1)] [] h := by
  intro n
  induction n with
  | zero => intro x1 h hs; cases hs
  | succ n ih => intro x1 h hs; exact tb_X5_next_126 C T ih x1 h hs
set_option maxRecDepth 20000 in
theorem tb_X5_next_0 {k : KX} (C : Cx k cX5_next RX5 2 rmX5_next) {hf : Hp} (T : Rx k none none hf) {K0 : Hp → Option (Hp)} (hK0 : ∀ (h : Hp), K0 h = some hf → V k rmX5_next 2 0 [(0, .ref 20)] [] h) (h : Hp) (hs : X5_next_b0 K0 h = some hf) : V k rmX5_next 2 0 [(0, .ref 20)] [] h := by
  unfold X5_next_b0 at hs
  refine V.aload_n (pc := 0) C dX5_next_0 0 rfl ?_
  obtain ⟨v2, h1, ch1, hs⟩ := o_b2 hs
  refine V.callV (pc := 1) C (o := 20) (rm := rmX5_here) (y := yX5_here) (bytes := cX5_here) (maxL := 1) (ret := (some .int)) (n := 0) (As := []) (rest := []) (rv := (some (.int v2))) (h1 := h1) (st0 := [.ref 20]) (st2 := [.int v2]) (by decide) rfl rfl (ct_X5_here (kL k) ch1) wf_708 wf_710 wf_23 wf_54 wf_711 rfl rfl (by decide +kernel) ⟨by decide, by decide⟩ rfl (Nat.le_of_ble_eq_true rfl) dX5_next_1 rfl rfl ?_
  refine V.bipush (pc := 4) C (v := (32 : Int32)) dX5_next_4 (by decide) ?_
  refine V.icmp_ne (pc := 6) C (tgt := 22) dX5_next_6 (by decide) (fun c3 => ?_) (fun c3 => ?_)
  · have hs := o_el c3 hs
    refine V.aload_n (pc := 22) C dX5_next_22 0 rfl ?_
    refine V.aload_n (pc := 23) C dX5_next_23 0 rfl ?_
    refine V.getf (pc := 24) C (o := 20) (j := 8) (v := .int (h1.1 20 8)) (by decide) rfl rfl inX5 (by decide) (by decide) wf_613 rfl dX5_next_24 ?_
    refine V.put (pc := 27) C (o := 20) (j := 9) (v := (h1.1 20 8)) (by decide) rfl rfl inX5 (by decide) (by decide) wf_614 tyX5 tyX5_ok nmX5 rfl rfl rfl rfl dX5_next_27 ?_
    refine V.aload_n (pc := 30) C dX5_next_30 0 rfl ?_
    refine V.iconst (pc := 31) C (v := (0 : Int32)) dX5_next_31 (by decide) ?_
    refine V.put (pc := 32) C (o := 20) (j := 11) (v := (0 : Int32)) (by decide) rfl rfl inX5 (by decide) (by decide) wf_616 tyX5 tyX5_ok nmX5 rfl rfl rfl rfl dX5_next_32 ?_
    refine V.aload_n (pc := 35) C dX5_next_35 0 rfl ?_
    obtain ⟨v5, h4, ch4, hs⟩ := o_b2 hs
    refine V.callV (pc := 36) C (o := 20) (rm := rmX5_here) (y := yX5_here) (bytes := cX5_here) (maxL := 1) (ret := (some .int)) (n := 0) (As := []) (rest := []) (rv := (some (.int v5))) (h1 := h4) (st0 := [.ref 20]) (st2 := [.int v5]) (by decide) rfl rfl (ct_X5_here (kL k) ch4) wf_708 wf_710 wf_23 wf_54 wf_711 rfl rfl (by decide +kernel) ⟨by decide, by decide⟩ rfl (Nat.le_of_ble_eq_true rfl) dX5_next_36 rfl rfl ?_
    refine V.istore_n (pc := 39) C (i := 1) (lv2 := [(1, .int v5), (0, .ref 20)]) dX5_next_39 rfl (by decide) rfl ?_
    refine V.iload_n (pc := 40) C dX5_next_40 0 rfl ?_
    refine V.if_ge (pc := 41) C (tgt := 52) dX5_next_41 (by decide) (fun c6 => ?_) (fun c6 => ?_)
    · have hs := o_if c6 hs
      refine V.iload_n (pc := 52) C dX5_next_52 0 rfl ?_
      refine V.bipush (pc := 53) C (v := (97 : Int32)) dX5_next_53 (by decide) ?_
      refine V.bipush (pc := 55) C (v := (122 : Int32)) dX5_next_55 (by decide) ?_
      obtain ⟨v8, h7, ch7, hs⟩ := o_b2 hs
      refine V.callS (pc := 57) C (rm := rmX5_in) (y := yX5_in) (bytes := cX5_in) (maxL := 3) (ret := (some .boolean)) (n := 3) (As := [.int v5, .int (97 : Int32), .int (122 : Int32)]) (rest := []) (rv := (some (.int v8))) (h1 := h7) (st0 := [.int (122 : Int32), .int (97 : Int32), .int v5]) (st2 := [.int v8]) (ct_X5_in (kL k) ch7) wf_693 wf_694 wf_54 wf_695 rfl rfl (by decide +kernel) ⟨by decide, by decide⟩ rfl (Nat.le_of_ble_eq_true rfl) dX5_next_57 rfl rfl ?_
      refine V.if_eq (pc := 60) C (tgt := 115) dX5_next_60 (by decide) (fun c9 => ?_) (fun c9 => ?_)
      · have hs := o_if c9 hs
        refine V.iload_n (pc := 115) C dX5_next_115 0 rfl ?_
        refine V.bipush (pc := 116) C (v := (48 : Int32)) dX5_next_116 (by decide) ?_
        refine V.bipush (pc := 118) C (v := (57 : Int32)) dX5_next_118 (by decide) ?_
        obtain ⟨v11, h10, ch10, hs⟩ := o_b2 hs
        refine V.callS (pc := 120) C (rm := rmX5_in) (y := yX5_in) (bytes := cX5_in) (maxL := 3) (ret := (some .boolean)) (n := 3) (As := [.int v5, .int (48 : Int32), .int (57 : Int32)]) (rest := []) (rv := (some (.int v11))) (h1 := h10) (st0 := [.int (57 : Int32), .int (48 : Int32), .int v5]) (st2 := [.int v11]) (ct_X5_in (kL k) ch10) wf_693 wf_694 wf_54 wf_695 rfl rfl (by decide +kernel) ⟨by decide, by decide⟩ rfl (Nat.le_of_ble_eq_true rfl) dX5_next_120 rfl rfl ?_
        refine V.if_eq (pc := 123) C (tgt := 228) dX5_next_123 (by decide) (fun c12 => ?_) (fun c12 => ?_)
        · have hs := o_if c12 hs
          refine V.aload_n (pc := 228) C dX5_next_228 1 rfl ?_
          refine V.dup (pc := 229) C dX5_next_229 rfl ?_
          refine V.getf (pc := 230) C (o := 20) (j := 8) (v := .int (h10.1 20 8)) (by decide) rfl rfl inX5 (by decide) (by decide) wf_613 rfl dX5_next_230 ?_
          refine V.iconst (pc := 233) C (v := (1 : Int32)) dX5_next_233 (by decide) ?_
          refine V.iadd (pc := 234) C dX5_next_234 ?_
          refine V.put (pc := 235) C (o := 20) (j := 8) (v := ((h10.1 20 8) + (1 : Int32))) (by decide) rfl rfl inX5 (by decide) (by decide) wf_613 tyX5 tyX5_ok nmX5 rfl rfl rfl rfl dX5_next_235 ?_
          refine V.aload_n (pc := 238) C dX5_next_238 1 rfl ?_
          refine V.iload_n (pc := 239) C dX5_next_239 0 rfl ?_
          refine V.bipush (pc := 240) C (v := (59 : Int32)) dX5_next_240 (by decide) ?_
          refine V.icmp_ne (pc := 242) C (tgt := 249) dX5_next_242 (by decide) (fun c13 => ?_) (fun c13 => ?_)
          · have hs := o_el c13 hs
            refine V.iconst (pc := 249) C (v := (4 : Int32)) dX5_next_249 (by decide) ?_
            refine V.put (pc := 250) C (o := 20) (j := 10) (v := (4 : Int32)) (by decide) rfl rfl inX5 (by decide) (by decide) wf_615 tyX5 tyX5_ok nmX5 rfl rfl rfl rfl dX5_next_250 ?_
            exact V.vret (pc := 253) C T hs dX5_next_253
          · have hs := o_if c13 hs
            refine V.iconst (pc := 245) C (v := (2 : Int32)) dX5_next_245 (by decide) ?_
            refine V.goto (pc := 246) C (tgt := 250) dX5_next_246 (by decide) ?_
            refine V.put (pc := 250) C (o := 20) (j := 10) (v := (2 : Int32)) (by decide) rfl rfl inX5 (by decide) (by decide) wf_615 tyX5 tyX5_ok nmX5 rfl rfl rfl rfl dX5_next_250 ?_
            exact V.vret (pc := 253) C T hs dX5_next_253
        · have hs := o_el c12 hs
          refine V.sub [1, 0] rfl ?_
          exact tl_X5_next_126 C T fu _ _ hs
      · have hs := o_el c9 hs
        refine V.sub [1, 0] rfl ?_
        exact tl_X5_next_63 C T fu _ _ hs
    · have hs := o_el c6 hs
      refine V.aload_n (pc := 44) C dX5_next_44 1 rfl ?_
      refine V.iconst (pc := 45) C (v := (3 : Int32)) dX5_next_45 (by decide) ?_
      refine V.put (pc := 46) C (o := 20) (j := 10) (v := (3 : Int32)) (by decide) rfl rfl inX5 (by decide) (by decide) wf_615 tyX5 tyX5_ok nmX5 rfl rfl rfl rfl dX5_next_46 ?_
      refine V.goto (pc := 49) C (tgt := 253) dX5_next_49 (by decide) ?_
      exact V.vret (pc := 253) C T hs dX5_next_253
  · have hs := o_if c3 hs
    refine V.aload_n (pc := 9) C dX5_next_9 0 rfl ?_
    refine V.dup (pc := 10) C dX5_next_10 rfl ?_
    refine V.getf (pc := 11) C (o := 20) (j := 8) (v := .int (h1.1 20 8)) (by decide) rfl rfl inX5 (by decide) (by decide) wf_613 rfl dX5_next_11 ?_
    refine V.iconst (pc := 14) C (v := (1 : Int32)) dX5_next_14 (by decide) ?_
    refine V.iadd (pc := 15) C dX5_next_15 ?_
    refine V.put (pc := 16) C (o := 20) (j := 8) (v := ((h1.1 20 8) + (1 : Int32))) (by decide) rfl rfl inX5 (by decide) (by decide) wf_613 tyX5 tyX5_ok nmX5 rfl rfl rfl rfl dX5_next_16 ?_
    refine V.goto (pc := 19) C (tgt := 0) dX5_next_19 (by decide) ?_
    refine V.sub [0] rfl ?_
    exact hK0  _ hs
theorem tl_X5_next_0 {k : KX} (C : Cx k cX5_next RX5 2 rmX5_next) {hf : Hp} (T : Rx k none none hf) : ∀ (n : Nat) (h : Hp), X5_next_l0 n h = some hf → V k rmX5_next 2 0 [(0, .ref 20)] [] h := by
  intro n
  induction n with
  | zero => intro h hs; cases hs
  | succ n ih => intro h hs; exact tb_X5_next_0 C T ih h hs
set_option maxRecDepth 20000 in
theorem ct_X5_next (l : Launch) {h hf : Hp} (hs : X5_next h = some hf) : Ct l yX5_next (Cond.code yX5_next cX5_next 2 none :: wsG) rmX5_next [.ref 20] h none hf := by
  refine Ct.of (by decide +kernel) (fun _ => Nat.le_of_ble_eq_true rfl) (fun k C T => ?_)
  unfold X5_next at hs
  show V k rmX5_next 2 0 [(0, .ref 20)] [] h
  refine V.sub [0] rfl ?_
  exact tl_X5_next_0 C T fu  _ hs
abbrev rmX5_mayBe : Room := { frames := 0, cells := 0, slots := 0, locals := 0 }
set_option maxRecDepth 20000 in
theorem ct_X5_mayBe (l : Launch) {x1 : Int32} {h hf : Hp} {r : Int32} (hs : X5_mayBe x1 h = some (r, hf)) : Ct l yX5_mayBe (Cond.code yX5_mayBe cX5_mayBe 2 (some .boolean) :: wsG) rmX5_mayBe [.ref 20, .int x1] h (some (.int r)) hf := by
  refine Ct.of (by decide +kernel) (fun _ => Nat.le_of_ble_eq_true rfl) (fun k C T => ?_)
  unfold X5_mayBe at hs
  show V k rmX5_mayBe 2 0 [(0, .ref 20), (1, .int x1)] [] h
  refine V.iload_n (pc := 0) C dX5_mayBe_0 1 rfl ?_
  by_cases c4_0 : x1 = (108 : Int32)
  · have hs := o_if c4_0 hs
    refine V.look (pc := 1) C (tgt := 36) dX5_mayBe_1 (by decide) (by rw [c4_0]) (by decide) ?_
    refine V.aload_n (pc := 36) C dX5_mayBe_36 0 rfl ?_
    refine V.getf (pc := 37) C (o := 20) (j := 3) (v := .ref 22) (by decide) rfl rfl inX5 (by decide) (by decide) wf_608 rfl dX5_mayBe_37 ?_
    refine V.iconst (pc := 40) C (v := (1 : Int32)) dX5_mayBe_40 (by decide) ?_
    refine V.iald (pc := 41) C (o := 22) (v := (h.1 22 1)) (by decide) rfl rfl (by decide) rfl dX5_mayBe_41 ?_
    refine V.bipush (pc := 42) C (v := (6 : Int32)) dX5_mayBe_42 (by decide) ?_
    refine V.icmp_ge (pc := 44) C (tgt := 51) dX5_mayBe_44 (by decide) (fun c1 => ?_) (fun c1 => ?_)
    · have hs := o_if c1 hs
      refine V.iconst (pc := 51) C (v := (0 : Int32)) dX5_mayBe_51 (by decide) ?_
      exact V.zret (pc := 52) C T (by decide) hs dX5_mayBe_52
    · have hs := o_el c1 hs
      refine V.iconst (pc := 47) C (v := (1 : Int32)) dX5_mayBe_47 (by decide) ?_
      refine V.goto (pc := 48) C (tgt := 52) dX5_mayBe_48 (by decide) ?_
      exact V.zret (pc := 52) C T (by decide) hs dX5_mayBe_52
  have hs := o_el c4_0 hs
  by_cases c4_1 : x1 = (119 : Int32)
  · have hs := o_if c4_1 hs
    refine V.look (pc := 1) C (tgt := 53) dX5_mayBe_1 (by decide) (by rw [c4_1]) (by decide) ?_
    refine V.aload_n (pc := 53) C dX5_mayBe_53 0 rfl ?_
    refine V.getf (pc := 54) C (o := 20) (j := 5) (v := .ref 24) (by decide) rfl rfl inX5 (by decide) (by decide) wf_610 rfl dX5_mayBe_54 ?_
    refine V.iconst (pc := 57) C (v := (1 : Int32)) dX5_mayBe_57 (by decide) ?_
    refine V.iald (pc := 58) C (o := 24) (v := (h.1 24 1)) (by decide) rfl rfl (by decide) rfl dX5_mayBe_58 ?_
    refine V.bipush (pc := 59) C (v := (10 : Int32)) dX5_mayBe_59 (by decide) ?_
    refine V.icmp_ge (pc := 61) C (tgt := 68) dX5_mayBe_61 (by decide) (fun c2 => ?_) (fun c2 => ?_)
    · have hs := o_if c2 hs
      refine V.iconst (pc := 68) C (v := (0 : Int32)) dX5_mayBe_68 (by decide) ?_
      exact V.zret (pc := 69) C T (by decide) hs dX5_mayBe_69
    · have hs := o_el c2 hs
      refine V.iconst (pc := 64) C (v := (1 : Int32)) dX5_mayBe_64 (by decide) ?_
      refine V.goto (pc := 65) C (tgt := 69) dX5_mayBe_65 (by decide) ?_
      exact V.zret (pc := 69) C T (by decide) hs dX5_mayBe_69
  have hs := o_el c4_1 hs
  by_cases c4_2 : x1 = (122 : Int32)
  · have hs := o_if c4_2 hs
    refine V.look (pc := 1) C (tgt := 70) dX5_mayBe_1 (by decide) (by rw [c4_2]) (by decide) ?_
    refine V.aload_n (pc := 70) C dX5_mayBe_70 0 rfl ?_
    refine V.getf (pc := 71) C (o := 20) (j := 13) (v := .int (h.1 20 13)) (by decide) rfl rfl inX5 (by decide) (by decide) wf_618 rfl dX5_mayBe_71 ?_
    refine V.if_ne (pc := 74) C (tgt := 81) dX5_mayBe_74 (by decide) (fun c3 => ?_) (fun c3 => ?_)
    · have hs := o_el c3 hs
      refine V.iconst (pc := 81) C (v := (0 : Int32)) dX5_mayBe_81 (by decide) ?_
      exact V.zret (pc := 82) C T (by decide) hs dX5_mayBe_82
    · have hs := o_if c3 hs
      refine V.iconst (pc := 77) C (v := (1 : Int32)) dX5_mayBe_77 (by decide) ?_
      refine V.goto (pc := 78) C (tgt := 82) dX5_mayBe_78 (by decide) ?_
      exact V.zret (pc := 82) C T (by decide) hs dX5_mayBe_82
  have hs := o_el c4_2 hs
  have ic4_0 : (x1).toInt ≠ 108 := fun z => c4_0 (Int32.toInt_inj.mp z)
  have ic4_1 : (x1).toInt ≠ 119 := fun z => c4_1 (Int32.toInt_inj.mp z)
  have ic4_2 : (x1).toInt ≠ 122 := fun z => c4_2 (Int32.toInt_inj.mp z)
  refine V.look (pc := 1) C (tgt := 83) dX5_mayBe_1 (by decide) (look3 ic4_0 ic4_1 ic4_2) (by decide) ?_
  refine V.iconst (pc := 83) C (v := (0 : Int32)) dX5_mayBe_83 (by decide) ?_
  exact V.zret (pc := 84) C T (by decide) hs dX5_mayBe_84
abbrev rmX5_due : Room := { frames := 2, cells := 0, slots := 0, locals := 43 }
set_option maxRecDepth 20000 in
theorem ct_X5_due (l : Launch) {x1 : Int32} {h hf : Hp} {r : Int32} (hs : X5_due x1 h = some (r, hf)) : Ct l yX5_due (Cond.code yX5_due cX5_due 3 (some .int) :: wsG) rmX5_due [.ref 20, .int x1] h (some (.int r)) hf := by
  refine Ct.of (by decide +kernel) (fun _ => Nat.le_of_ble_eq_true rfl) (fun k C T => ?_)
  unfold X5_due at hs
  show V k rmX5_due 3 0 [(0, .ref 20), (1, .int x1)] [] h
  refine V.aload_n (pc := 0) C dX5_due_0 0 rfl ?_
  refine V.getf (pc := 1) C (o := 20) (j := 11) (v := .int (h.1 20 11)) (by decide) rfl rfl inX5 (by decide) (by decide) wf_616 rfl dX5_due_1 ?_
  refine V.istore_n (pc := 4) C (i := 2) (lv2 := [(2, .int (h.1 20 11)), (0, .ref 20), (1, .int x1)]) dX5_due_4 rfl (by decide) rfl ?_
  refine V.aload_n (pc := 5) C dX5_due_5 1 rfl ?_
  refine V.getf (pc := 6) C (o := 20) (j := 12) (v := .int (h.1 20 12)) (by decide) rfl rfl inX5 (by decide) (by decide) wf_617 rfl dX5_due_6 ?_
  refine V.bipush (pc := 9) C (v := (-9 : Int32)) dX5_due_9 (by decide) ?_
  refine V.icmp_ne (pc := 11) C (tgt := 33) dX5_due_11 (by decide) (fun c1 => ?_) (fun c1 => ?_)
  · have hs := o_el c1 hs
    refine V.iload_n (pc := 33) C dX5_due_33 0 rfl ?_
    exact V.iret (pc := 34) C T hs dX5_due_34
  · have hs := o_if c1 hs
    refine V.iload_n (pc := 14) C dX5_due_14 2 rfl ?_
    refine V.if_eq (pc := 15) C (tgt := 25) dX5_due_15 (by decide) (fun c2 => ?_) (fun c2 => ?_)
    · have hs := o_if c2 hs
      refine V.aload_n (pc := 25) C dX5_due_25 1 rfl ?_
      refine V.aload_n (pc := 26) C dX5_due_26 1 rfl ?_
      refine V.getf (pc := 27) C (o := 20) (j := 9) (v := .int (h.1 20 9)) (by decide) rfl rfl inX5 (by decide) (by decide) wf_614 rfl dX5_due_27 ?_
      refine V.put (pc := 30) C (o := 20) (j := 12) (v := (h.1 20 9)) (by decide) rfl rfl inX5 (by decide) (by decide) wf_617 tyX5 tyX5_ok nmX5 rfl rfl rfl rfl dX5_due_30 ?_
      refine V.iload_n (pc := 33) C dX5_due_33 0 rfl ?_
      exact V.iret (pc := 34) C T hs dX5_due_34
    · have hs := o_el c2 hs
      refine V.aload_n (pc := 18) C dX5_due_18 1 rfl ?_
      obtain ⟨h3, ch3, hs⟩ := o_bind hs
      refine V.callV (pc := 19) C (o := 20) (rm := rmX5_next) (y := yX5_next) (bytes := cX5_next) (maxL := 2) (ret := none) (n := 0) (As := []) (rest := []) (rv := none) (h1 := h3) (st0 := [.ref 20]) (st2 := []) (by decide) rfl rfl (ct_X5_next (kL k) ch3) wf_704 wf_706 wf_22 wf_54 wf_707 rfl rfl (by decide +kernel) ⟨by decide, by decide⟩ rfl (Nat.le_of_ble_eq_true rfl) dX5_due_19 rfl rfl ?_
      refine V.goto (pc := 22) C (tgt := 33) dX5_due_22 (by decide) ?_
      refine V.iload_n (pc := 33) C dX5_due_33 0 rfl ?_
      exact V.iret (pc := 34) C T hs dX5_due_34
abbrev rmX5_number : Room := { frames := 3, cells := 0, slots := 0, locals := 65 }
set_option maxRecDepth 20000 in
theorem tb_X5_number_26 {k : KX} (C : Cx k cX5_number RX5 3 rmX5_number) {r : Int32} {hf : Hp} (T : Rx k (some .int) (some (.int r)) hf) (s1 : Int32) (h : Hp) (hs : X5_number_b26 s1 h = some (r, hf)) : V k rmX5_number 3 26 [] [.int s1, .ref 20] h := by
  unfold X5_number_b26 at hs
  obtain ⟨v6, h5, ch5, hs⟩ := o_b2 hs
  refine V.callV (pc := 26) C (o := 20) (rm := rmX5_due) (y := yX5_due) (bytes := cX5_due) (maxL := 3) (ret := (some .int)) (n := 1) (As := [.int s1]) (rest := []) (rv := (some (.int v6))) (h1 := h5) (st0 := [.int s1, .ref 20]) (st2 := [.int v6]) (by decide) rfl rfl (ct_X5_due (kL k) ch5) wf_716 wf_718 wf_25 wf_54 wf_719 rfl rfl (by decide +kernel) ⟨by decide, by decide⟩ rfl (Nat.le_of_ble_eq_true rfl) dX5_number_26 rfl rfl ?_
  exact V.iret (pc := 29) C T hs dX5_number_29
set_option maxRecDepth 20000 in
theorem tb_X5_number_25 {k : KX} (C : Cx k cX5_number RX5 3 rmX5_number) {r : Int32} {hf : Hp} (T : Rx k (some .int) (some (.int r)) hf) (h : Hp) (hs : X5_number_b25 h = some (r, hf)) : V k rmX5_number 3 25 [] [.ref 20] h := by
  unfold X5_number_b25 at hs
  refine V.iconst (pc := 25) C (v := (0 : Int32)) dX5_number_25 (by decide) ?_
  refine V.sub [] rfl ?_
  exact tb_X5_number_26 C T _ _ hs
set_option maxRecDepth 20000 in
theorem ct_X5_number (l : Launch) {x1 : Int32} {x2 : Int32} {h hf : Hp} {r : Int32} (hs : X5_number x1 x2 h = some (r, hf)) : Ct l yX5_number (Cond.code yX5_number cX5_number 3 (some .int) :: wsG) rmX5_number [.ref 20, .int x1, .int x2] h (some (.int r)) hf := by
  refine Ct.of (by decide +kernel) (fun _ => Nat.le_of_ble_eq_true rfl) (fun k C T => ?_)
  unfold X5_number at hs
  show V k rmX5_number 3 0 [(0, .ref 20), (1, .int x1), (2, .int x2)] [] h
  refine V.aload_n (pc := 0) C dX5_number_0 0 rfl ?_
  refine V.aload_n (pc := 1) C dX5_number_1 0 rfl ?_
  refine V.getf (pc := 2) C (o := 20) (j := 10) (v := .int (h.1 20 10)) (by decide) rfl rfl inX5 (by decide) (by decide) wf_615 rfl dX5_number_2 ?_
  refine V.iconst (pc := 5) C (v := (1 : Int32)) dX5_number_5 (by decide) ?_
  refine V.icmp_ne (pc := 6) C (tgt := 25) dX5_number_6 (by decide) (fun c1 => ?_) (fun c1 => ?_)
  · have hs := o_el c1 hs
    refine V.sub [] rfl ?_
    exact tb_X5_number_25 C T  _ hs
  · have hs := o_if c1 hs
    refine V.aload_n (pc := 9) C dX5_number_9 0 rfl ?_
    refine V.getf (pc := 10) C (o := 20) (j := 11) (v := .int (h.1 20 11)) (by decide) rfl rfl inX5 (by decide) (by decide) wf_616 rfl dX5_number_10 ?_
    refine V.iload_n (pc := 13) C dX5_number_13 1 rfl ?_
    refine V.iload_n (pc := 14) C dX5_number_14 2 rfl ?_
    obtain ⟨v3, h2, ch2, hs⟩ := o_b2 hs
    refine V.callS (pc := 15) C (rm := rmX5_in) (y := yX5_in) (bytes := cX5_in) (maxL := 3) (ret := (some .boolean)) (n := 3) (As := [.int (h.1 20 11), .int x1, .int x2]) (rest := [.ref 20]) (rv := (some (.int v3))) (h1 := h2) (st0 := [.int x2, .int x1, .int (h.1 20 11), .ref 20]) (st2 := [.int v3, .ref 20]) (ct_X5_in (kL k) ch2) wf_693 wf_694 wf_54 wf_695 rfl rfl (by decide +kernel) ⟨by decide, by decide⟩ rfl (Nat.le_of_ble_eq_true rfl) dX5_number_15 rfl rfl ?_
    refine V.if_eq (pc := 18) C (tgt := 25) dX5_number_18 (by decide) (fun c4 => ?_) (fun c4 => ?_)
    · have hs := o_if c4 hs
      refine V.sub [] rfl ?_
      exact tb_X5_number_25 C T  _ hs
    · have hs := o_el c4 hs
      refine V.iconst (pc := 21) C (v := (1 : Int32)) dX5_number_21 (by decide) ?_
      refine V.goto (pc := 22) C (tgt := 26) dX5_number_22 (by decide) ?_
      refine V.sub [] rfl ?_
      exact tb_X5_number_26 C T _ _ hs
abbrev rmX5_readRow : Room := { frames := 4, cells := 0, slots := 0, locals := 87 }
set_option maxRecDepth 20000 in
theorem tb_X5_readRow_133 {k : KX} (C : Cx k cX5_readRow RX5 4 rmX5_readRow) {hf : Hp} (T : Rx k none none hf) (x2 : Int32) (x3 : Int32) (s1 : Int32) (s3 : Int32) (h : Hp) (hs : X5_readRow_b133 x2 x3 s1 s3 h = some hf) : V k rmX5_readRow 4 133 [(0, .ref 20), (2, .int x2), (3, .int x3)] [.int s3, .ref 20, .int s1, .ref 25] h := by
  unfold X5_readRow_b133 at hs
  obtain ⟨v18, h17, ch17, hs⟩ := o_b2 hs
  refine V.callV (pc := 133) C (o := 20) (rm := rmX5_due) (y := yX5_due) (bytes := cX5_due) (maxL := 3) (ret := (some .int)) (n := 1) (As := [.int s3]) (rest := [.int s1, .ref 25]) (rv := (some (.int v18))) (h1 := h17) (st0 := [.int s3, .ref 20, .int s1, .ref 25]) (st2 := [.int v18, .int s1, .ref 25]) (by decide) rfl rfl (ct_X5_due (kL k) ch17) wf_716 wf_718 wf_25 wf_54 wf_719 rfl rfl (by decide +kernel) ⟨by decide, by decide⟩ rfl (Nat.le_of_ble_eq_true rfl) dX5_readRow_133 rfl rfl ?_
  obtain ⟨h19, eh19, bh19, hs⟩ := o_st hs
  refine V.iast (pc := 136) C (o := 25) (h2 := h19) (by decide) rfl rfl bh19 eh19 dX5_readRow_136 ?_
  refine V.aload_n (pc := 137) C dX5_readRow_137 0 rfl ?_
  refine V.getf (pc := 138) C (o := 20) (j := 6) (v := .ref 25) (by decide) rfl rfl inX5 (by decide) (by decide) wf_611 rfl dX5_readRow_138 ?_
  refine V.iload_n (pc := 141) C dX5_readRow_141 1 rfl ?_
  refine V.iconst (pc := 142) C (v := (3 : Int32)) dX5_readRow_142 (by decide) ?_
  refine V.iadd (pc := 143) C dX5_readRow_143 ?_
  refine V.aload_n (pc := 144) C dX5_readRow_144 0 rfl ?_
  refine V.iconst (pc := 145) C (v := (0 : Int32)) dX5_readRow_145 (by decide) ?_
  refine V.bipush (pc := 146) C (v := (12 : Int32)) dX5_readRow_146 (by decide) ?_
  obtain ⟨v21, h20, ch20, hs⟩ := o_b2 hs
  refine V.callV (pc := 148) C (o := 20) (rm := rmX5_number) (y := yX5_number) (bytes := cX5_number) (maxL := 3) (ret := (some .int)) (n := 2) (As := [.int (0 : Int32), .int (12 : Int32)]) (rest := [.int (x2 + (3 : Int32)), .ref 25]) (rv := (some (.int v21))) (h1 := h20) (st0 := [.int (12 : Int32), .int (0 : Int32), .ref 20, .int (x2 + (3 : Int32)), .ref 25]) (st2 := [.int v21, .int (x2 + (3 : Int32)), .ref 25]) (by decide) rfl rfl (ct_X5_number (kL k) ch20) wf_724 wf_726 wf_27 wf_54 wf_727 rfl rfl (by decide +kernel) ⟨by decide, by decide⟩ rfl (Nat.le_of_ble_eq_true rfl) dX5_readRow_148 rfl rfl ?_
  obtain ⟨h22, eh22, bh22, hs⟩ := o_st hs
  refine V.iast (pc := 151) C (o := 25) (h2 := h22) (by decide) rfl rfl bh22 eh22 dX5_readRow_151 ?_
  refine V.aload_n (pc := 152) C dX5_readRow_152 0 rfl ?_
  refine V.getf (pc := 153) C (o := 20) (j := 6) (v := .ref 25) (by decide) rfl rfl inX5 (by decide) (by decide) wf_611 rfl dX5_readRow_153 ?_
  refine V.iload_n (pc := 156) C dX5_readRow_156 1 rfl ?_
  refine V.iconst (pc := 157) C (v := (4 : Int32)) dX5_readRow_157 (by decide) ?_
  refine V.iadd (pc := 158) C dX5_readRow_158 ?_
  refine V.aload_n (pc := 159) C dX5_readRow_159 0 rfl ?_
  refine V.iconst (pc := 160) C (v := (0 : Int32)) dX5_readRow_160 (by decide) ?_
  refine V.iload_n (pc := 161) C dX5_readRow_161 2 rfl ?_
  refine V.iconst (pc := 162) C (v := (1 : Int32)) dX5_readRow_162 (by decide) ?_
  refine V.isub (pc := 163) C dX5_readRow_163 ?_
  obtain ⟨v24, h23, ch23, hs⟩ := o_b2 hs
  refine V.callV (pc := 164) C (o := 20) (rm := rmX5_number) (y := yX5_number) (bytes := cX5_number) (maxL := 3) (ret := (some .int)) (n := 2) (As := [.int (0 : Int32), .int (x3 - (1 : Int32))]) (rest := [.int (x2 + (4 : Int32)), .ref 25]) (rv := (some (.int v24))) (h1 := h23) (st0 := [.int (x3 - (1 : Int32)), .int (0 : Int32), .ref 20, .int (x2 + (4 : Int32)), .ref 25]) (st2 := [.int v24, .int (x2 + (4 : Int32)), .ref 25]) (by decide) rfl rfl (ct_X5_number (kL k) ch23) wf_724 wf_726 wf_27 wf_54 wf_727 rfl rfl (by decide +kernel) ⟨by decide, by decide⟩ rfl (Nat.le_of_ble_eq_true rfl) dX5_readRow_164 rfl rfl ?_
  obtain ⟨h25, eh25, bh25, hs⟩ := o_st hs
  refine V.iast (pc := 167) C (o := 25) (h2 := h25) (by decide) rfl rfl bh25 eh25 dX5_readRow_167 ?_
  refine V.aload_n (pc := 168) C dX5_readRow_168 0 rfl ?_
  refine V.getf (pc := 169) C (o := 20) (j := 5) (v := .ref 24) (by decide) rfl rfl inX5 (by decide) (by decide) wf_610 rfl dX5_readRow_169 ?_
  refine V.iconst (pc := 172) C (v := (1 : Int32)) dX5_readRow_172 (by decide) ?_
  refine V.dup2 (pc := 173) C dX5_readRow_173 rfl rfl ?_
  refine V.iald (pc := 174) C (o := 24) (v := (h25.1 24 1)) (by decide) rfl rfl (by decide) rfl dX5_readRow_174 ?_
  refine V.iconst (pc := 175) C (v := (1 : Int32)) dX5_readRow_175 (by decide) ?_
  refine V.iadd (pc := 176) C dX5_readRow_176 ?_
  refine V.iast (pc := 177) C (o := 24) (h2 := (sI h25 24 1 ((h25.1 24 1) + (1 : Int32)))) (by decide) rfl rfl (by decide) rfl dX5_readRow_177 ?_
  refine V.goto (pc := 178) C (tgt := 198) dX5_readRow_178 (by decide) ?_
  exact V.vret (pc := 198) C T hs dX5_readRow_198
set_option maxRecDepth 20000 in
theorem tb_X5_readRow_128 {k : KX} (C : Cx k cX5_readRow RX5 4 rmX5_readRow) {hf : Hp} (T : Rx k none none hf) (x2 : Int32) (x3 : Int32) (s1 : Int32) (h : Hp) (hs : X5_readRow_b128 x2 x3 s1 h = some hf) : V k rmX5_readRow 4 128 [(0, .ref 20), (2, .int x2), (3, .int x3)] [.ref 20, .int s1, .ref 25] h := by
  unfold X5_readRow_b128 at hs
  refine V.iconst (pc := 128) C (v := (1 : Int32)) dX5_readRow_128 (by decide) ?_
  refine V.goto (pc := 129) C (tgt := 133) dX5_readRow_129 (by decide) ?_
  refine V.sub [0, 1, 2] rfl ?_
  exact tb_X5_readRow_133 C T _ _ _ _ _ hs
set_option maxRecDepth 20000 in
theorem tb_X5_readRow_132 {k : KX} (C : Cx k cX5_readRow RX5 4 rmX5_readRow) {hf : Hp} (T : Rx k none none hf) (x2 : Int32) (x3 : Int32) (s1 : Int32) (h : Hp) (hs : X5_readRow_b132 x2 x3 s1 h = some hf) : V k rmX5_readRow 4 132 [(0, .ref 20), (2, .int x2), (3, .int x3)] [.ref 20, .int s1, .ref 25] h := by
  unfold X5_readRow_b132 at hs
  refine V.iconst (pc := 132) C (v := (0 : Int32)) dX5_readRow_132 (by decide) ?_
  refine V.sub [0, 1, 2] rfl ?_
  exact tb_X5_readRow_133 C T _ _ _ _ _ hs
set_option maxRecDepth 20000 in
theorem ct_X5_readRow (l : Launch) {x1 : Int32} {h hf : Hp} (hs : X5_readRow x1 h = some hf) : Ct l yX5_readRow (Cond.code yX5_readRow cX5_readRow 4 none :: wsG) rmX5_readRow [.ref 20, .int x1] h none hf := by
  refine Ct.of (by decide +kernel) (fun _ => Nat.le_of_ble_eq_true rfl) (fun k C T => ?_)
  unfold X5_readRow at hs
  show V k rmX5_readRow 4 0 [(0, .ref 20), (1, .int x1)] [] h
  refine V.iload_n (pc := 0) C dX5_readRow_0 1 rfl ?_
  refine V.bipush (pc := 1) C (v := (108 : Int32)) dX5_readRow_1 (by decide) ?_
  refine V.icmp_ne (pc := 3) C (tgt := 40) dX5_readRow_3 (by decide) (fun c1 => ?_) (fun c1 => ?_)
  · have hs := o_el c1 hs
    refine V.iload_n (pc := 40) C dX5_readRow_40 1 rfl ?_
    refine V.bipush (pc := 41) C (v := (119 : Int32)) dX5_readRow_41 (by decide) ?_
    refine V.icmp_ne (pc := 43) C (tgt := 181) dX5_readRow_43 (by decide) (fun c2 => ?_) (fun c2 => ?_)
    · have hs := o_el c2 hs
      refine V.aload_n (pc := 181) C dX5_readRow_181 0 rfl ?_
      refine V.getf (pc := 182) C (o := 20) (j := 7) (v := .ref 26) (by decide) rfl rfl inX5 (by decide) (by decide) wf_612 rfl dX5_readRow_182 ?_
      refine V.iconst (pc := 185) C (v := (1 : Int32)) dX5_readRow_185 (by decide) ?_
      refine V.aload_n (pc := 186) C dX5_readRow_186 0 rfl ?_
      refine V.iconst (pc := 187) C (v := (1 : Int32)) dX5_readRow_187 (by decide) ?_
      refine V.iconst (pc := 188) C (v := (5 : Int32)) dX5_readRow_188 (by decide) ?_
      obtain ⟨v4, h3, ch3, hs⟩ := o_b2 hs
      refine V.callV (pc := 189) C (o := 20) (rm := rmX5_number) (y := yX5_number) (bytes := cX5_number) (maxL := 3) (ret := (some .int)) (n := 2) (As := [.int (1 : Int32), .int (5 : Int32)]) (rest := [.int (1 : Int32), .ref 26]) (rv := (some (.int v4))) (h1 := h3) (st0 := [.int (5 : Int32), .int (1 : Int32), .ref 20, .int (1 : Int32), .ref 26]) (st2 := [.int v4, .int (1 : Int32), .ref 26]) (by decide) rfl rfl (ct_X5_number (kL k) ch3) wf_724 wf_726 wf_27 wf_54 wf_727 rfl rfl (by decide +kernel) ⟨by decide, by decide⟩ rfl (Nat.le_of_ble_eq_true rfl) dX5_readRow_189 rfl rfl ?_
      refine V.iast (pc := 192) C (o := 26) (h2 := (sI h3 26 1 v4)) (by decide) rfl rfl (by decide) rfl dX5_readRow_192 ?_
      refine V.aload_n (pc := 193) C dX5_readRow_193 0 rfl ?_
      refine V.iconst (pc := 194) C (v := (1 : Int32)) dX5_readRow_194 (by decide) ?_
      refine V.put (pc := 195) C (o := 20) (j := 13) (v := (1 : Int32)) (by decide) rfl rfl inX5 (by decide) (by decide) wf_618 tyX5 tyX5_ok nmX5 rfl rfl rfl rfl dX5_readRow_195 ?_
      exact V.vret (pc := 198) C T hs dX5_readRow_198
    · have hs := o_if c2 hs
      refine V.bipush (pc := 46) C (v := (50 : Int32)) dX5_readRow_46 (by decide) ?_
      refine V.iconst (pc := 48) C (v := (5 : Int32)) dX5_readRow_48 (by decide) ?_
      refine V.aload_n (pc := 49) C dX5_readRow_49 0 rfl ?_
      refine V.getf (pc := 50) C (o := 20) (j := 5) (v := .ref 24) (by decide) rfl rfl inX5 (by decide) (by decide) wf_610 rfl dX5_readRow_50 ?_
      refine V.iconst (pc := 53) C (v := (1 : Int32)) dX5_readRow_53 (by decide) ?_
      refine V.iald (pc := 54) C (o := 24) (v := (h.1 24 1)) (by decide) rfl rfl (by decide) rfl dX5_readRow_54 ?_
      refine V.imul (pc := 55) C dX5_readRow_55 ?_
      refine V.iadd (pc := 56) C dX5_readRow_56 ?_
      refine V.istore_n (pc := 57) C (i := 2) (lv2 := [(2, .int ((50 : Int32) + ((5 : Int32) * (h.1 24 1)))), (0, .ref 20), (1, .int x1)]) dX5_readRow_57 rfl (by decide) rfl ?_
      refine V.aload_n (pc := 58) C dX5_readRow_58 1 rfl ?_
      refine V.iconst (pc := 59) C (v := (1 : Int32)) dX5_readRow_59 (by decide) ?_
      refine V.bipush (pc := 60) C (v := (12 : Int32)) dX5_readRow_60 (by decide) ?_
      obtain ⟨v6, h5, ch5, hs⟩ := o_b2 hs
      refine V.callV (pc := 62) C (o := 20) (rm := rmX5_number) (y := yX5_number) (bytes := cX5_number) (maxL := 3) (ret := (some .int)) (n := 2) (As := [.int (1 : Int32), .int (12 : Int32)]) (rest := []) (rv := (some (.int v6))) (h1 := h5) (st0 := [.int (12 : Int32), .int (1 : Int32), .ref 20]) (st2 := [.int v6]) (by decide) rfl rfl (ct_X5_number (kL k) ch5) wf_724 wf_726 wf_27 wf_54 wf_727 rfl rfl (by decide +kernel) ⟨by decide, by decide⟩ rfl (Nat.le_of_ble_eq_true rfl) dX5_readRow_62 rfl rfl ?_
      refine V.istore_n (pc := 65) C (i := 3) (lv2 := [(3, .int v6), (2, .int ((50 : Int32) + ((5 : Int32) * (h.1 24 1)))), (0, .ref 20), (1, .int x1)]) dX5_readRow_65 rfl (by decide) rfl ?_
      refine V.aload_n (pc := 66) C dX5_readRow_66 2 rfl ?_
      refine V.getf (pc := 67) C (o := 20) (j := 6) (v := .ref 25) (by decide) rfl rfl inX5 (by decide) (by decide) wf_611 rfl dX5_readRow_67 ?_
      refine V.iload_n (pc := 70) C dX5_readRow_70 1 rfl ?_
      refine V.iconst (pc := 71) C (v := (0 : Int32)) dX5_readRow_71 (by decide) ?_
      refine V.iadd (pc := 72) C dX5_readRow_72 ?_
      refine V.iload_n (pc := 73) C dX5_readRow_73 0 rfl ?_
      obtain ⟨h7, eh7, bh7, hs⟩ := o_st hs
      refine V.iast (pc := 74) C (o := 25) (h2 := h7) (by decide) rfl rfl bh7 eh7 dX5_readRow_74 ?_
      refine V.aload_n (pc := 75) C dX5_readRow_75 2 rfl ?_
      refine V.getf (pc := 76) C (o := 20) (j := 6) (v := .ref 25) (by decide) rfl rfl inX5 (by decide) (by decide) wf_611 rfl dX5_readRow_76 ?_
      refine V.iload_n (pc := 79) C dX5_readRow_79 1 rfl ?_
      refine V.iconst (pc := 80) C (v := (1 : Int32)) dX5_readRow_80 (by decide) ?_
      refine V.iadd (pc := 81) C dX5_readRow_81 ?_
      refine V.aload_n (pc := 82) C dX5_readRow_82 2 rfl ?_
      refine V.iconst (pc := 83) C (v := (0 : Int32)) dX5_readRow_83 (by decide) ?_
      refine V.bipush (pc := 84) C (v := (9 : Int32)) dX5_readRow_84 (by decide) ?_
      obtain ⟨v9, h8, ch8, hs⟩ := o_b2 hs
      refine V.callV (pc := 86) C (o := 20) (rm := rmX5_number) (y := yX5_number) (bytes := cX5_number) (maxL := 3) (ret := (some .int)) (n := 2) (As := [.int (0 : Int32), .int (9 : Int32)]) (rest := [.int (((50 : Int32) + ((5 : Int32) * (h.1 24 1))) + (1 : Int32)), .ref 25]) (rv := (some (.int v9))) (h1 := h8) (st0 := [.int (9 : Int32), .int (0 : Int32), .ref 20, .int (((50 : Int32) + ((5 : Int32) * (h.1 24 1))) + (1 : Int32)), .ref 25]) (st2 := [.int v9, .int (((50 : Int32) + ((5 : Int32) * (h.1 24 1))) + (1 : Int32)), .ref 25]) (by decide) rfl rfl (ct_X5_number (kL k) ch8) wf_724 wf_726 wf_27 wf_54 wf_727 rfl rfl (by decide +kernel) ⟨by decide, by decide⟩ rfl (Nat.le_of_ble_eq_true rfl) dX5_readRow_86 rfl rfl ?_
      obtain ⟨h10, eh10, bh10, hs⟩ := o_st hs
      refine V.iast (pc := 89) C (o := 25) (h2 := h10) (by decide) rfl rfl bh10 eh10 dX5_readRow_89 ?_
      refine V.aload_n (pc := 90) C dX5_readRow_90 2 rfl ?_
      refine V.getf (pc := 91) C (o := 20) (j := 6) (v := .ref 25) (by decide) rfl rfl inX5 (by decide) (by decide) wf_611 rfl dX5_readRow_91 ?_
      refine V.iload_n (pc := 94) C dX5_readRow_94 1 rfl ?_
      refine V.iconst (pc := 95) C (v := (2 : Int32)) dX5_readRow_95 (by decide) ?_
      refine V.iadd (pc := 96) C dX5_readRow_96 ?_
      refine V.aload_n (pc := 97) C dX5_readRow_97 2 rfl ?_
      refine V.aload_n (pc := 98) C dX5_readRow_98 2 rfl ?_
      refine V.getf (pc := 99) C (o := 20) (j := 10) (v := .int (h10.1 20 10)) (by decide) rfl rfl inX5 (by decide) (by decide) wf_615 rfl dX5_readRow_99 ?_
      refine V.iconst (pc := 102) C (v := (1 : Int32)) dX5_readRow_102 (by decide) ?_
      refine V.icmp_ne (pc := 103) C (tgt := 132) dX5_readRow_103 (by decide) (fun c11 => ?_) (fun c11 => ?_)
      · have hs := o_el c11 hs
        refine V.sub [2, 1, 0] rfl ?_
        exact tb_X5_readRow_132 C T _ _ _ _ hs
      · have hs := o_if c11 hs
        refine V.aload_n (pc := 106) C dX5_readRow_106 2 rfl ?_
        refine V.getf (pc := 107) C (o := 20) (j := 11) (v := .int (h10.1 20 11)) (by decide) rfl rfl inX5 (by decide) (by decide) wf_616 rfl dX5_readRow_107 ?_
        refine V.aload_n (pc := 110) C dX5_readRow_110 2 rfl ?_
        refine V.getf (pc := 111) C (o := 20) (j := 5) (v := .ref 24) (by decide) rfl rfl inX5 (by decide) (by decide) wf_610 rfl dX5_readRow_111 ?_
        refine V.iconst (pc := 114) C (v := (1 : Int32)) dX5_readRow_114 (by decide) ?_
        refine V.iald (pc := 115) C (o := 24) (v := (h10.1 24 1)) (by decide) rfl rfl (by decide) rfl dX5_readRow_115 ?_
        refine V.icmp_lt (pc := 116) C (tgt := 128) dX5_readRow_116 (by decide) (fun c12 => ?_) (fun c12 => ?_)
        · have hs := o_if c12 hs
          refine V.sub [2, 1, 0] rfl ?_
          exact tb_X5_readRow_128 C T _ _ _ _ hs
        · have hs := o_el c12 hs
          refine V.aload_n (pc := 119) C dX5_readRow_119 2 rfl ?_
          refine V.getf (pc := 120) C (o := 20) (j := 11) (v := .int (h10.1 20 11)) (by decide) rfl rfl inX5 (by decide) (by decide) wf_616 rfl dX5_readRow_120 ?_
          refine V.bipush (pc := 123) C (v := (99 : Int32)) dX5_readRow_123 (by decide) ?_
          refine V.icmp_ne (pc := 125) C (tgt := 132) dX5_readRow_125 (by decide) (fun c13 => ?_) (fun c13 => ?_)
          · have hs := o_el c13 hs
            refine V.sub [2, 1, 0] rfl ?_
            exact tb_X5_readRow_132 C T _ _ _ _ hs
          · have hs := o_if c13 hs
            refine V.sub [2, 1, 0] rfl ?_
            exact tb_X5_readRow_128 C T _ _ _ _ hs
  · have hs := o_if c1 hs
    refine V.aload_n (pc := 6) C dX5_readRow_6 0 rfl ?_
    refine V.getf (pc := 7) C (o := 20) (j := 4) (v := .ref 23) (by decide) rfl rfl inX5 (by decide) (by decide) wf_609 rfl dX5_readRow_7 ?_
    refine V.bipush (pc := 10) C (v := (6 : Int32)) dX5_readRow_10 (by decide) ?_
    refine V.aload_n (pc := 12) C dX5_readRow_12 0 rfl ?_
    refine V.getf (pc := 13) C (o := 20) (j := 3) (v := .ref 22) (by decide) rfl rfl inX5 (by decide) (by decide) wf_608 rfl dX5_readRow_13 ?_
    refine V.iconst (pc := 16) C (v := (1 : Int32)) dX5_readRow_16 (by decide) ?_
    refine V.iald (pc := 17) C (o := 22) (v := (h.1 22 1)) (by decide) rfl rfl (by decide) rfl dX5_readRow_17 ?_
    refine V.iadd (pc := 18) C dX5_readRow_18 ?_
    refine V.aload_n (pc := 19) C dX5_readRow_19 0 rfl ?_
    refine V.iconst (pc := 20) C (v := (1 : Int32)) dX5_readRow_20 (by decide) ?_
    refine V.bipush (pc := 21) C (v := (60 : Int32)) dX5_readRow_21 (by decide) ?_
    obtain ⟨v15, h14, ch14, hs⟩ := o_b2 hs
    refine V.callV (pc := 23) C (o := 20) (rm := rmX5_number) (y := yX5_number) (bytes := cX5_number) (maxL := 3) (ret := (some .int)) (n := 2) (As := [.int (1 : Int32), .int (60 : Int32)]) (rest := [.int ((6 : Int32) + (h.1 22 1)), .ref 23]) (rv := (some (.int v15))) (h1 := h14) (st0 := [.int (60 : Int32), .int (1 : Int32), .ref 20, .int ((6 : Int32) + (h.1 22 1)), .ref 23]) (st2 := [.int v15, .int ((6 : Int32) + (h.1 22 1)), .ref 23]) (by decide) rfl rfl (ct_X5_number (kL k) ch14) wf_724 wf_726 wf_27 wf_54 wf_727 rfl rfl (by decide +kernel) ⟨by decide, by decide⟩ rfl (Nat.le_of_ble_eq_true rfl) dX5_readRow_23 rfl rfl ?_
    obtain ⟨h16, eh16, bh16, hs⟩ := o_st hs
    refine V.iast (pc := 26) C (o := 23) (h2 := h16) (by decide) rfl rfl bh16 eh16 dX5_readRow_26 ?_
    refine V.aload_n (pc := 27) C dX5_readRow_27 0 rfl ?_
    refine V.getf (pc := 28) C (o := 20) (j := 3) (v := .ref 22) (by decide) rfl rfl inX5 (by decide) (by decide) wf_608 rfl dX5_readRow_28 ?_
    refine V.iconst (pc := 31) C (v := (1 : Int32)) dX5_readRow_31 (by decide) ?_
    refine V.dup2 (pc := 32) C dX5_readRow_32 rfl rfl ?_
    refine V.iald (pc := 33) C (o := 22) (v := (h16.1 22 1)) (by decide) rfl rfl (by decide) rfl dX5_readRow_33 ?_
    refine V.iconst (pc := 34) C (v := (1 : Int32)) dX5_readRow_34 (by decide) ?_
    refine V.iadd (pc := 35) C dX5_readRow_35 ?_
    refine V.iast (pc := 36) C (o := 22) (h2 := (sI h16 22 1 ((h16.1 22 1) + (1 : Int32)))) (by decide) rfl rfl (by decide) rfl dX5_readRow_36 ?_
    refine V.goto (pc := 37) C (tgt := 198) dX5_readRow_37 (by decide) ?_
    exact V.vret (pc := 198) C T hs dX5_readRow_198
abbrev rmX5_card : Room := { frames := 5, cells := 0, slots := 0, locals := 110 }
set_option maxRecDepth 20000 in
theorem tb_X5_card_110 {k : KX} (C : Cx k cX5_card RX5 3 rmX5_card) {r : Int32} {hf : Hp} (T : Rx k (some .int) (some (.int r)) hf) {K43 : Int32 → Hp → Option (Int32 × Hp)} (hK43 : ∀ (x1 : Int32) (h : Hp), K43 x1 h = some (r, hf) → V k rmX5_card 3 43 [(0, .ref 20), (1, .int x1)] [] h) (x1 : Int32) (h : Hp) (hs : X5_card_b110 K43 x1 h = some (r, hf)) : V k rmX5_card 3 110 [(0, .ref 20), (1, .int x1)] [] h := by
  unfold X5_card_b110 at hs
  refine V.goto (pc := 110) C (tgt := 43) dX5_card_110 (by decide) ?_
  refine V.sub [0, 1] rfl ?_
  exact hK43 _ _ hs
set_option maxRecDepth 20000 in
theorem tb_X5_card_103 {k : KX} (C : Cx k cX5_card RX5 3 rmX5_card) {r : Int32} {hf : Hp} (T : Rx k (some .int) (some (.int r)) hf) {K43 : Int32 → Hp → Option (Int32 × Hp)} (hK43 : ∀ (x1 : Int32) (h : Hp), K43 x1 h = some (r, hf) → V k rmX5_card 3 43 [(0, .ref 20), (1, .int x1)] [] h) (x1 : Int32) (s1 : Int32) (h : Hp) (hs : X5_card_b103 K43 x1 s1 h = some (r, hf)) : V k rmX5_card 3 103 [(0, .ref 20), (1, .int x1)] [.int s1, .ref 20] h := by
  unfold X5_card_b103 at hs
  obtain ⟨v13, h12, ch12, hs⟩ := o_b2 hs
  refine V.callV (pc := 103) C (o := 20) (rm := rmX5_due) (y := yX5_due) (bytes := cX5_due) (maxL := 3) (ret := (some .int)) (n := 1) (As := [.int s1]) (rest := []) (rv := (some (.int v13))) (h1 := h12) (st0 := [.int s1, .ref 20]) (st2 := [.int v13]) (by decide) rfl rfl (ct_X5_due (kL k) ch12) wf_716 wf_718 wf_25 wf_54 wf_719 rfl rfl (by decide +kernel) ⟨by decide, by decide⟩ rfl (Nat.le_of_ble_eq_true rfl) dX5_card_103 rfl rfl ?_
  refine V.pop (pc := 106) C dX5_card_106 rfl ?_
  refine V.iinc (pc := 107) C (j := 1) (v := (x1 + (1 : Int32))) (lv2 := [(1, .int (x1 + (1 : Int32))), (0, .ref 20)]) dX5_card_107 rfl rfl (by decide) rfl ?_
  refine V.sub [1, 0] rfl ?_
  exact tb_X5_card_110 C T hK43 _ _ hs
set_option maxRecDepth 20000 in
theorem tb_X5_card_262 {k : KX} (C : Cx k cX5_card RX5 3 rmX5_card) {r : Int32} {hf : Hp} (T : Rx k (some .int) (some (.int r)) hf) (x1 : Int32) (s1 : Int32) (s2 : Int32) (h : Hp) (hs : X5_card_b262 x1 s1 s2 h = some (r, hf)) : V k rmX5_card 3 262 [(0, .ref 20), (1, .int x1)] [.int s2, .int s1, .ref 27] h := by
  unfold X5_card_b262 at hs
  obtain ⟨h21, eh21, bh21, hs⟩ := o_st hs
  refine V.iast (pc := 262) C (o := 27) (h2 := h21) (by decide) rfl rfl bh21 eh21 dX5_card_262 ?_
  refine V.aload_n (pc := 263) C dX5_card_263 0 rfl ?_
  refine V.getf (pc := 264) C (o := 20) (j := 14) (v := .ref 27) (by decide) rfl rfl inX5 (by decide) (by decide) wf_619 rfl dX5_card_264 ?_
  refine V.iconst (pc := 267) C (v := (3 : Int32)) dX5_card_267 (by decide) ?_
  refine V.iconst (pc := 268) C (v := (5 : Int32)) dX5_card_268 (by decide) ?_
  refine V.iast (pc := 269) C (o := 27) (h2 := (sI h21 27 3 (5 : Int32))) (by decide) rfl rfl (by decide) rfl dX5_card_269 ?_
  refine V.aload_n (pc := 270) C dX5_card_270 0 rfl ?_
  refine V.getf (pc := 271) C (o := 20) (j := 14) (v := .ref 27) (by decide) rfl rfl inX5 (by decide) (by decide) wf_619 rfl dX5_card_271 ?_
  refine V.iconst (pc := 274) C (v := (4 : Int32)) dX5_card_274 (by decide) ?_
  refine V.iconst (pc := 275) C (v := (0 : Int32)) dX5_card_275 (by decide) ?_
  refine V.iast (pc := 276) C (o := 27) (h2 := (sI (sI h21 27 3 (5 : Int32)) 27 4 (0 : Int32))) (by decide) rfl rfl (by decide) rfl dX5_card_276 ?_
  refine V.aload_n (pc := 277) C dX5_card_277 0 rfl ?_
  refine V.getf (pc := 278) C (o := 20) (j := 14) (v := .ref 27) (by decide) rfl rfl inX5 (by decide) (by decide) wf_619 rfl dX5_card_278 ?_
  refine V.iconst (pc := 281) C (v := (5 : Int32)) dX5_card_281 (by decide) ?_
  refine V.iconst (pc := 282) C (v := (0 : Int32)) dX5_card_282 (by decide) ?_
  refine V.iast (pc := 283) C (o := 27) (h2 := (sI (sI (sI h21 27 3 (5 : Int32)) 27 4 (0 : Int32)) 27 5 (0 : Int32))) (by decide) rfl rfl (by decide) rfl dX5_card_283 ?_
  refine V.aload_n (pc := 284) C dX5_card_284 0 rfl ?_
  refine V.iconst (pc := 285) C (v := (0 : Int32)) dX5_card_285 (by decide) ?_
  refine V.put (pc := 286) C (o := 20) (j := 26) (v := (0 : Int32)) (by decide) rfl rfl inX5 (by decide) (by decide) wf_631 tyX5 tyX5_ok nmX5 rfl rfl rfl rfl dX5_card_286 ?_
  refine V.aload_n (pc := 289) C dX5_card_289 0 rfl ?_
  refine V.getf (pc := 290) C (o := 20) (j := 15) (v := .ref 28) (by decide) rfl rfl inX5 (by decide) (by decide) wf_620 rfl dX5_card_290 ?_
  refine V.iconst (pc := 293) C (v := (0 : Int32)) dX5_card_293 (by decide) ?_
  refine V.iconst (pc := 294) C (v := (0 : Int32)) dX5_card_294 (by decide) ?_
  refine V.zast (pc := 295) C (o := 28) (w := (0 : Int32)) (h2 := (sI (sI (sI (sI (sI h21 27 3 (5 : Int32)) 27 4 (0 : Int32)) 27 5 (0 : Int32)) 20 26 (0 : Int32)) 28 0 (0 : Int32))) (by decide) rfl rfl (by decide) rfl rfl dX5_card_295 ?_
  refine V.aload_n (pc := 296) C dX5_card_296 0 rfl ?_
  refine V.getf (pc := 297) C (o := 20) (j := 15) (v := .ref 28) (by decide) rfl rfl inX5 (by decide) (by decide) wf_620 rfl dX5_card_297 ?_
  refine V.iconst (pc := 300) C (v := (1 : Int32)) dX5_card_300 (by decide) ?_
  refine V.iconst (pc := 301) C (v := (0 : Int32)) dX5_card_301 (by decide) ?_
  refine V.zast (pc := 302) C (o := 28) (w := (0 : Int32)) (h2 := (sI (sI (sI (sI (sI (sI h21 27 3 (5 : Int32)) 27 4 (0 : Int32)) 27 5 (0 : Int32)) 20 26 (0 : Int32)) 28 0 (0 : Int32)) 28 1 (0 : Int32))) (by decide) rfl rfl (by decide) rfl rfl dX5_card_302 ?_
  refine V.aload_n (pc := 303) C dX5_card_303 0 rfl ?_
  refine V.iconst (pc := 304) C (v := (0 : Int32)) dX5_card_304 (by decide) ?_
  refine V.put (pc := 305) C (o := 20) (j := 2) (v := (0 : Int32)) (by decide) rfl rfl inX5 (by decide) (by decide) wf_607 tyX5 tyX5_ok nmX5 rfl rfl rfl rfl dX5_card_305 ?_
  refine V.iload_n (pc := 308) C dX5_card_308 1 rfl ?_
  exact V.iret (pc := 309) C T hs dX5_card_309
set_option maxRecDepth 20000 in
theorem tb_X5_card_197 {k : KX} (C : Cx k cX5_card RX5 3 rmX5_card) {r : Int32} {hf : Hp} (T : Rx k (some .int) (some (.int r)) hf) {K197 : Int32 → Int32 → Hp → Option (Int32 × Hp)} (hK197 : ∀ (x1 : Int32) (x2 : Int32) (h : Hp), K197 x1 x2 h = some (r, hf) → V k rmX5_card 3 197 [(0, .ref 20), (1, .int x1), (2, .int x2)] [] h) (x1 : Int32) (x2 : Int32) (h : Hp) (hs : X5_card_b197 K197 x1 x2 h = some (r, hf)) : V k rmX5_card 3 197 [(0, .ref 20), (1, .int x1), (2, .int x2)] [] h := by
  unfold X5_card_b197 at hs
  refine V.iload_n (pc := 197) C dX5_card_197 2 rfl ?_
  refine V.bipush (pc := 198) C (v := (50 : Int32)) dX5_card_198 (by decide) ?_
  refine V.icmp_ge (pc := 200) C (tgt := 224) dX5_card_200 (by decide) (fun c17 => ?_) (fun c17 => ?_)
  · have hs := o_if c17 hs
    refine V.aload_n (pc := 224) C dX5_card_224 0 rfl ?_
    refine V.getf (pc := 225) C (o := 20) (j := 14) (v := .ref 27) (by decide) rfl rfl inX5 (by decide) (by decide) wf_619 rfl dX5_card_225 ?_
    refine V.iconst (pc := 228) C (v := (0 : Int32)) dX5_card_228 (by decide) ?_
    refine V.iconst (pc := 229) C (v := (0 : Int32)) dX5_card_229 (by decide) ?_
    refine V.iast (pc := 230) C (o := 27) (h2 := (sI h 27 0 (0 : Int32))) (by decide) rfl rfl (by decide) rfl dX5_card_230 ?_
    refine V.aload_n (pc := 231) C dX5_card_231 0 rfl ?_
    refine V.getf (pc := 232) C (o := 20) (j := 14) (v := .ref 27) (by decide) rfl rfl inX5 (by decide) (by decide) wf_619 rfl dX5_card_232 ?_
    refine V.iconst (pc := 235) C (v := (1 : Int32)) dX5_card_235 (by decide) ?_
    refine V.iconst (pc := 236) C (v := (0 : Int32)) dX5_card_236 (by decide) ?_
    refine V.iast (pc := 237) C (o := 27) (h2 := (sI (sI h 27 0 (0 : Int32)) 27 1 (0 : Int32))) (by decide) rfl rfl (by decide) rfl dX5_card_237 ?_
    refine V.aload_n (pc := 238) C dX5_card_238 0 rfl ?_
    refine V.getf (pc := 239) C (o := 20) (j := 14) (v := .ref 27) (by decide) rfl rfl inX5 (by decide) (by decide) wf_619 rfl dX5_card_239 ?_
    refine V.iconst (pc := 242) C (v := (2 : Int32)) dX5_card_242 (by decide) ?_
    refine V.aload_n (pc := 243) C dX5_card_243 0 rfl ?_
    refine V.getf (pc := 244) C (o := 20) (j := 3) (v := .ref 22) (by decide) rfl rfl inX5 (by decide) (by decide) wf_608 rfl dX5_card_244 ?_
    refine V.iconst (pc := 247) C (v := (0 : Int32)) dX5_card_247 (by decide) ?_
    refine V.iald (pc := 248) C (o := 22) (v := (h.1 22 0)) (by decide) rfl rfl (by decide) rfl dX5_card_248 ?_
    refine V.if_le (pc := 249) C (tgt := 261) dX5_card_249 (by decide) (fun c18 => ?_) (fun c18 => ?_)
    · have hs := o_if c18 hs
      refine V.iconst (pc := 261) C (v := (0 : Int32)) dX5_card_261 (by decide) ?_
      refine V.sub [0, 1] rfl ?_
      exact tb_X5_card_262 C T _ _ _ _ hs
    · have hs := o_el c18 hs
      refine V.aload_n (pc := 252) C dX5_card_252 0 rfl ?_
      refine V.getf (pc := 253) C (o := 20) (j := 4) (v := .ref 23) (by decide) rfl rfl inX5 (by decide) (by decide) wf_609 rfl dX5_card_253 ?_
      refine V.iconst (pc := 256) C (v := (0 : Int32)) dX5_card_256 (by decide) ?_
      refine V.iald (pc := 257) C (o := 23) (v := (h.1 23 0)) (by decide) rfl rfl (by decide) rfl dX5_card_257 ?_
      refine V.goto (pc := 258) C (tgt := 262) dX5_card_258 (by decide) ?_
      refine V.sub [0, 1] rfl ?_
      exact tb_X5_card_262 C T _ _ _ _ hs
  · have hs := o_el c17 hs
    refine V.aload_n (pc := 203) C dX5_card_203 0 rfl ?_
    refine V.getf (pc := 204) C (o := 20) (j := 6) (v := .ref 25) (by decide) rfl rfl inX5 (by decide) (by decide) wf_611 rfl dX5_card_204 ?_
    refine V.iload_n (pc := 207) C dX5_card_207 2 rfl ?_
    refine V.aload_n (pc := 208) C dX5_card_208 0 rfl ?_
    refine V.getf (pc := 209) C (o := 20) (j := 6) (v := .ref 25) (by decide) rfl rfl inX5 (by decide) (by decide) wf_611 rfl dX5_card_209 ?_
    refine V.bipush (pc := 212) C (v := (50 : Int32)) dX5_card_212 (by decide) ?_
    refine V.iload_n (pc := 214) C dX5_card_214 2 rfl ?_
    refine V.iadd (pc := 215) C dX5_card_215 ?_
    obtain ⟨v19, ev19, bv19, hs⟩ := o_ld hs
    refine V.iald (pc := 216) C (o := 25) (v := v19) (by decide) rfl rfl bv19 ev19 dX5_card_216 ?_
    obtain ⟨h20, eh20, bh20, hs⟩ := o_st hs
    refine V.iast (pc := 217) C (o := 25) (h2 := h20) (by decide) rfl rfl bh20 eh20 dX5_card_217 ?_
    refine V.iinc (pc := 218) C (j := 2) (v := (x2 + (1 : Int32))) (lv2 := [(2, .int (x2 + (1 : Int32))), (0, .ref 20), (1, .int x1)]) dX5_card_218 rfl rfl (by decide) rfl ?_
    refine V.goto (pc := 221) C (tgt := 197) dX5_card_221 (by decide) ?_
    refine V.sub [1, 2, 0] rfl ?_
    exact hK197 _ _ _ hs
theorem tl_X5_card_197 {k : KX} (C : Cx k cX5_card RX5 3 rmX5_card) {r : Int32} {hf : Hp} (T : Rx k (some .int) (some (.int r)) hf) : ∀ (n : Nat) (x1 : Int32) (x2 : Int32) (h : Hp), X5_card_l197 n x1 x2 h = some (r, hf) → V k rmX5_card 3 197 [(0, .ref 20), (1, .int x1), (2, .int x2)] [] h := by
  intro n
  induction n with
  | zero => intro x1 x2 h hs; cases hs
  | succ n ih => intro x1 x2 h hs; exact tb_X5_card_197 C T ih x1 x2 h hs
set_option maxRecDepth 20000 in
theorem tb_X5_card_168 {k : KX} (C : Cx k cX5_card RX5 3 rmX5_card) {r : Int32} {hf : Hp} (T : Rx k (some .int) (some (.int r)) hf) {K168 : Int32 → Int32 → Hp → Option (Int32 × Hp)} (hK168 : ∀ (x1 : Int32) (x2 : Int32) (h : Hp), K168 x1 x2 h = some (r, hf) → V k rmX5_card 3 168 [(0, .ref 20), (1, .int x1), (2, .int x2)] [] h) (x1 : Int32) (x2 : Int32) (h : Hp) (hs : X5_card_b168 K168 x1 x2 h = some (r, hf)) : V k rmX5_card 3 168 [(0, .ref 20), (1, .int x1), (2, .int x2)] [] h := by
  unfold X5_card_b168 at hs
  refine V.iload_n (pc := 168) C dX5_card_168 2 rfl ?_
  refine V.bipush (pc := 169) C (v := (6 : Int32)) dX5_card_169 (by decide) ?_
  refine V.icmp_ge (pc := 171) C (tgt := 195) dX5_card_171 (by decide) (fun c14 => ?_) (fun c14 => ?_)
  · have hs := o_if c14 hs
    refine V.iconst (pc := 195) C (v := (0 : Int32)) dX5_card_195 (by decide) ?_
    refine V.istore_n (pc := 196) C (i := 2) (lv2 := [(2, .int (0 : Int32)), (0, .ref 20), (1, .int x1)]) dX5_card_196 rfl (by decide) rfl ?_
    refine V.sub [1, 2, 0] rfl ?_
    exact tl_X5_card_197 C T fu _ _ _ hs
  · have hs := o_el c14 hs
    refine V.aload_n (pc := 174) C dX5_card_174 0 rfl ?_
    refine V.getf (pc := 175) C (o := 20) (j := 4) (v := .ref 23) (by decide) rfl rfl inX5 (by decide) (by decide) wf_609 rfl dX5_card_175 ?_
    refine V.iload_n (pc := 178) C dX5_card_178 2 rfl ?_
    refine V.aload_n (pc := 179) C dX5_card_179 0 rfl ?_
    refine V.getf (pc := 180) C (o := 20) (j := 4) (v := .ref 23) (by decide) rfl rfl inX5 (by decide) (by decide) wf_609 rfl dX5_card_180 ?_
    refine V.bipush (pc := 183) C (v := (6 : Int32)) dX5_card_183 (by decide) ?_
    refine V.iload_n (pc := 185) C dX5_card_185 2 rfl ?_
    refine V.iadd (pc := 186) C dX5_card_186 ?_
    obtain ⟨v15, ev15, bv15, hs⟩ := o_ld hs
    refine V.iald (pc := 187) C (o := 23) (v := v15) (by decide) rfl rfl bv15 ev15 dX5_card_187 ?_
    obtain ⟨h16, eh16, bh16, hs⟩ := o_st hs
    refine V.iast (pc := 188) C (o := 23) (h2 := h16) (by decide) rfl rfl bh16 eh16 dX5_card_188 ?_
    refine V.iinc (pc := 189) C (j := 2) (v := (x2 + (1 : Int32))) (lv2 := [(2, .int (x2 + (1 : Int32))), (0, .ref 20), (1, .int x1)]) dX5_card_189 rfl rfl (by decide) rfl ?_
    refine V.goto (pc := 192) C (tgt := 168) dX5_card_192 (by decide) ?_
    refine V.sub [1, 2, 0] rfl ?_
    exact hK168 _ _ _ hs
theorem tl_X5_card_168 {k : KX} (C : Cx k cX5_card RX5 3 rmX5_card) {r : Int32} {hf : Hp} (T : Rx k (some .int) (some (.int r)) hf) : ∀ (n : Nat) (x1 : Int32) (x2 : Int32) (h : Hp), X5_card_l168 n x1 x2 h = some (r, hf) → V k rmX5_card 3 168 [(0, .ref 20), (1, .int x1), (2, .int x2)] [] h := by
  intro n
  induction n with
  | zero => intro x1 x2 h hs; cases hs
  | succ n ih => intro x1 x2 h hs; exact tb_X5_card_168 C T ih x1 x2 h hs
set_option maxRecDepth 20000 in
theorem tb_X5_card_113 {k : KX} (C : Cx k cX5_card RX5 3 rmX5_card) {r : Int32} {hf : Hp} (T : Rx k (some .int) (some (.int r)) hf) (x1 : Int32) (h : Hp) (hs : X5_card_b113 x1 h = some (r, hf)) : V k rmX5_card 3 113 [(0, .ref 20), (1, .int x1)] [] h := by
  unfold X5_card_b113 at hs
  refine V.aload_n (pc := 113) C dX5_card_113 0 rfl ?_
  refine V.getf (pc := 114) C (o := 20) (j := 12) (v := .int (h.1 20 12)) (by decide) rfl rfl inX5 (by decide) (by decide) wf_617 rfl dX5_card_114 ?_
  refine V.bipush (pc := 117) C (v := (-9 : Int32)) dX5_card_117 (by decide) ?_
  refine V.icmp_eq (pc := 119) C (tgt := 130) dX5_card_119 (by decide) (fun c11 => ?_) (fun c11 => ?_)
  · have hs := o_if c11 hs
    refine V.aload_n (pc := 130) C dX5_card_130 0 rfl ?_
    refine V.getf (pc := 131) C (o := 20) (j := 3) (v := .ref 22) (by decide) rfl rfl inX5 (by decide) (by decide) wf_608 rfl dX5_card_131 ?_
    refine V.iconst (pc := 134) C (v := (0 : Int32)) dX5_card_134 (by decide) ?_
    refine V.aload_n (pc := 135) C dX5_card_135 0 rfl ?_
    refine V.getf (pc := 136) C (o := 20) (j := 3) (v := .ref 22) (by decide) rfl rfl inX5 (by decide) (by decide) wf_608 rfl dX5_card_136 ?_
    refine V.iconst (pc := 139) C (v := (1 : Int32)) dX5_card_139 (by decide) ?_
    refine V.iald (pc := 140) C (o := 22) (v := (h.1 22 1)) (by decide) rfl rfl (by decide) rfl dX5_card_140 ?_
    refine V.iast (pc := 141) C (o := 22) (h2 := (sI h 22 0 (h.1 22 1))) (by decide) rfl rfl (by decide) rfl dX5_card_141 ?_
    refine V.aload_n (pc := 142) C dX5_card_142 0 rfl ?_
    refine V.getf (pc := 143) C (o := 20) (j := 5) (v := .ref 24) (by decide) rfl rfl inX5 (by decide) (by decide) wf_610 rfl dX5_card_143 ?_
    refine V.iconst (pc := 146) C (v := (0 : Int32)) dX5_card_146 (by decide) ?_
    refine V.aload_n (pc := 147) C dX5_card_147 0 rfl ?_
    refine V.getf (pc := 148) C (o := 20) (j := 5) (v := .ref 24) (by decide) rfl rfl inX5 (by decide) (by decide) wf_610 rfl dX5_card_148 ?_
    refine V.iconst (pc := 151) C (v := (1 : Int32)) dX5_card_151 (by decide) ?_
    refine V.iald (pc := 152) C (o := 24) (v := (h.1 24 1)) (by decide) rfl rfl (by decide) rfl dX5_card_152 ?_
    refine V.iast (pc := 153) C (o := 24) (h2 := (sI (sI h 22 0 (h.1 22 1)) 24 0 (h.1 24 1))) (by decide) rfl rfl (by decide) rfl dX5_card_153 ?_
    refine V.aload_n (pc := 154) C dX5_card_154 0 rfl ?_
    refine V.getf (pc := 155) C (o := 20) (j := 7) (v := .ref 26) (by decide) rfl rfl inX5 (by decide) (by decide) wf_612 rfl dX5_card_155 ?_
    refine V.iconst (pc := 158) C (v := (0 : Int32)) dX5_card_158 (by decide) ?_
    refine V.aload_n (pc := 159) C dX5_card_159 0 rfl ?_
    refine V.getf (pc := 160) C (o := 20) (j := 7) (v := .ref 26) (by decide) rfl rfl inX5 (by decide) (by decide) wf_612 rfl dX5_card_160 ?_
    refine V.iconst (pc := 163) C (v := (1 : Int32)) dX5_card_163 (by decide) ?_
    refine V.iald (pc := 164) C (o := 26) (v := (h.1 26 1)) (by decide) rfl rfl (by decide) rfl dX5_card_164 ?_
    refine V.iast (pc := 165) C (o := 26) (h2 := (sI (sI (sI h 22 0 (h.1 22 1)) 24 0 (h.1 24 1)) 26 0 (h.1 26 1))) (by decide) rfl rfl (by decide) rfl dX5_card_165 ?_
    refine V.iconst (pc := 166) C (v := (0 : Int32)) dX5_card_166 (by decide) ?_
    refine V.istore_n (pc := 167) C (i := 2) (lv2 := [(2, .int (0 : Int32)), (0, .ref 20), (1, .int x1)]) dX5_card_167 rfl (by decide) rfl ?_
    refine V.sub [1, 2, 0] rfl ?_
    exact tl_X5_card_168 C T fu _ _ _ hs
  · have hs := o_el c11 hs
    refine V.bipush (pc := 122) C (v := (-10 : Int32)) dX5_card_122 (by decide) ?_
    refine V.aload_n (pc := 124) C dX5_card_124 0 rfl ?_
    refine V.getf (pc := 125) C (o := 20) (j := 12) (v := .int (h.1 20 12)) (by decide) rfl rfl inX5 (by decide) (by decide) wf_617 rfl dX5_card_125 ?_
    refine V.isub (pc := 128) C dX5_card_128 ?_
    exact V.iret (pc := 129) C T hs dX5_card_129
set_option maxRecDepth 20000 in
theorem tb_X5_card_43 {k : KX} (C : Cx k cX5_card RX5 3 rmX5_card) {r : Int32} {hf : Hp} (T : Rx k (some .int) (some (.int r)) hf) {K43 : Int32 → Hp → Option (Int32 × Hp)} (hK43 : ∀ (x1 : Int32) (h : Hp), K43 x1 h = some (r, hf) → V k rmX5_card 3 43 [(0, .ref 20), (1, .int x1)] [] h) (x1 : Int32) (h : Hp) (hs : X5_card_b43 K43 x1 h = some (r, hf)) : V k rmX5_card 3 43 [(0, .ref 20), (1, .int x1)] [] h := by
  unfold X5_card_b43 at hs
  refine V.aload_n (pc := 43) C dX5_card_43 0 rfl ?_
  refine V.getf (pc := 44) C (o := 20) (j := 12) (v := .int (h.1 20 12)) (by decide) rfl rfl inX5 (by decide) (by decide) wf_617 rfl dX5_card_44 ?_
  refine V.bipush (pc := 47) C (v := (-9 : Int32)) dX5_card_47 (by decide) ?_
  refine V.icmp_ne (pc := 49) C (tgt := 113) dX5_card_49 (by decide) (fun c2 => ?_) (fun c2 => ?_)
  · have hs := o_el c2 hs
    refine V.sub [0, 1] rfl ?_
    exact tb_X5_card_113 C T _ _ hs
  · have hs := o_if c2 hs
    refine V.aload_n (pc := 52) C dX5_card_52 0 rfl ?_
    refine V.getf (pc := 53) C (o := 20) (j := 10) (v := .int (h.1 20 10)) (by decide) rfl rfl inX5 (by decide) (by decide) wf_615 rfl dX5_card_53 ?_
    refine V.iconst (pc := 56) C (v := (3 : Int32)) dX5_card_56 (by decide) ?_
    refine V.icmp_eq (pc := 57) C (tgt := 113) dX5_card_57 (by decide) (fun c3 => ?_) (fun c3 => ?_)
    · have hs := o_if c3 hs
      refine V.sub [0, 1] rfl ?_
      exact tb_X5_card_113 C T _ _ hs
    · have hs := o_el c3 hs
      refine V.aload_n (pc := 60) C dX5_card_60 0 rfl ?_
      refine V.getf (pc := 61) C (o := 20) (j := 10) (v := .int (h.1 20 10)) (by decide) rfl rfl inX5 (by decide) (by decide) wf_615 rfl dX5_card_61 ?_
      refine V.istore_n (pc := 64) C (i := 2) (lv2 := [(2, .int (h.1 20 10)), (0, .ref 20), (1, .int x1)]) dX5_card_64 rfl (by decide) rfl ?_
      refine V.aload_n (pc := 65) C dX5_card_65 1 rfl ?_
      refine V.aload_n (pc := 66) C dX5_card_66 1 rfl ?_
      refine V.iload_n (pc := 67) C dX5_card_67 0 rfl ?_
      obtain ⟨v5, h4, ch4, hs⟩ := o_b2 hs
      refine V.callV (pc := 68) C (o := 20) (rm := rmX5_mayBe) (y := yX5_mayBe) (bytes := cX5_mayBe) (maxL := 2) (ret := (some .boolean)) (n := 1) (As := [.int (h.1 20 10)]) (rest := [.ref 20]) (rv := (some (.int v5))) (h1 := h4) (st0 := [.int (h.1 20 10), .ref 20, .ref 20]) (st2 := [.int v5, .ref 20]) (by decide) rfl rfl (ct_X5_mayBe (kL k) ch4) wf_712 wf_714 wf_24 wf_54 wf_715 rfl rfl (by decide +kernel) ⟨by decide, by decide⟩ rfl (Nat.le_of_ble_eq_true rfl) dX5_card_68 rfl rfl ?_
      obtain ⟨v7, h6, ch6, hs⟩ := o_b2 hs
      refine V.callV (pc := 71) C (o := 20) (rm := rmX5_due) (y := yX5_due) (bytes := cX5_due) (maxL := 3) (ret := (some .int)) (n := 1) (As := [.int v5]) (rest := []) (rv := (some (.int v7))) (h1 := h6) (st0 := [.int v5, .ref 20]) (st2 := [.int v7]) (by decide) rfl rfl (ct_X5_due (kL k) ch6) wf_716 wf_718 wf_25 wf_54 wf_719 rfl rfl (by decide +kernel) ⟨by decide, by decide⟩ rfl (Nat.le_of_ble_eq_true rfl) dX5_card_71 rfl rfl ?_
      refine V.pop (pc := 74) C dX5_card_74 rfl ?_
      refine V.aload_n (pc := 75) C dX5_card_75 1 rfl ?_
      refine V.getf (pc := 76) C (o := 20) (j := 12) (v := .int (h6.1 20 12)) (by decide) rfl rfl inX5 (by decide) (by decide) wf_617 rfl dX5_card_76 ?_
      refine V.bipush (pc := 79) C (v := (-9 : Int32)) dX5_card_79 (by decide) ?_
      refine V.icmp_ne (pc := 81) C (tgt := 110) dX5_card_81 (by decide) (fun c8 => ?_) (fun c8 => ?_)
      · have hs := o_el c8 hs
        refine V.sub [1, 2] rfl ?_
        exact tb_X5_card_110 C T hK43 _ _ hs
      · have hs := o_if c8 hs
        refine V.aload_n (pc := 84) C dX5_card_84 1 rfl ?_
        refine V.iload_n (pc := 85) C dX5_card_85 0 rfl ?_
        obtain ⟨h9, ch9, hs⟩ := o_bind hs
        refine V.callV (pc := 86) C (o := 20) (rm := rmX5_readRow) (y := yX5_readRow) (bytes := cX5_readRow) (maxL := 4) (ret := none) (n := 1) (As := [.int (h.1 20 10)]) (rest := []) (rv := none) (h1 := h9) (st0 := [.int (h.1 20 10), .ref 20]) (st2 := []) (by decide) rfl rfl (ct_X5_readRow (kL k) ch9) wf_720 wf_722 wf_26 wf_54 wf_723 rfl rfl (by decide +kernel) ⟨by decide, by decide⟩ rfl (Nat.le_of_ble_eq_true rfl) dX5_card_86 rfl rfl ?_
        refine V.aload_n (pc := 89) C dX5_card_89 1 rfl ?_
        refine V.aload_n (pc := 90) C dX5_card_90 1 rfl ?_
        refine V.getf (pc := 91) C (o := 20) (j := 10) (v := .int (h9.1 20 10)) (by decide) rfl rfl inX5 (by decide) (by decide) wf_615 rfl dX5_card_91 ?_
        refine V.iconst (pc := 94) C (v := (2 : Int32)) dX5_card_94 (by decide) ?_
        refine V.icmp_ne (pc := 95) C (tgt := 102) dX5_card_95 (by decide) (fun c10 => ?_) (fun c10 => ?_)
        · have hs := o_el c10 hs
          refine V.iconst (pc := 102) C (v := (0 : Int32)) dX5_card_102 (by decide) ?_
          refine V.sub [1, 2] rfl ?_
          exact tb_X5_card_103 C T hK43 _ _ _ hs
        · have hs := o_if c10 hs
          refine V.iconst (pc := 98) C (v := (1 : Int32)) dX5_card_98 (by decide) ?_
          refine V.goto (pc := 99) C (tgt := 103) dX5_card_99 (by decide) ?_
          refine V.sub [1, 2] rfl ?_
          exact tb_X5_card_103 C T hK43 _ _ _ hs
theorem tl_X5_card_43 {k : KX} (C : Cx k cX5_card RX5 3 rmX5_card) {r : Int32} {hf : Hp} (T : Rx k (some .int) (some (.int r)) hf) : ∀ (n : Nat) (x1 : Int32) (h : Hp), X5_card_l43 n x1 h = some (r, hf) → V k rmX5_card 3 43 [(0, .ref 20), (1, .int x1)] [] h := by
  intro n
  induction n with
  | zero => intro x1 h hs; cases hs
  | succ n ih => intro x1 h hs; exact tb_X5_card_43 C T ih x1 h hs
set_option maxRecDepth 20000 in
theorem ct_X5_card (l : Launch) {h hf : Hp} {r : Int32} (hs : X5_card h = some (r, hf)) : Ct l yX5_card (Cond.code yX5_card cX5_card 3 (some .int) :: wsG) rmX5_card [.ref 20] h (some (.int r)) hf := by
  refine Ct.of (by decide +kernel) (fun _ => Nat.le_of_ble_eq_true rfl) (fun k C T => ?_)
  unfold X5_card at hs
  show V k rmX5_card 3 0 [(0, .ref 20)] [] h
  refine V.aload_n (pc := 0) C dX5_card_0 0 rfl ?_
  refine V.iconst (pc := 1) C (v := (0 : Int32)) dX5_card_1 (by decide) ?_
  refine V.put (pc := 2) C (o := 20) (j := 8) (v := (0 : Int32)) (by decide) rfl rfl inX5 (by decide) (by decide) wf_613 tyX5 tyX5_ok nmX5 rfl rfl rfl rfl dX5_card_2 ?_
  refine V.aload_n (pc := 5) C dX5_card_5 0 rfl ?_
  refine V.bipush (pc := 6) C (v := (-9 : Int32)) dX5_card_6 (by decide) ?_
  refine V.put (pc := 8) C (o := 20) (j := 12) (v := (-9 : Int32)) (by decide) rfl rfl inX5 (by decide) (by decide) wf_617 tyX5 tyX5_ok nmX5 rfl rfl rfl rfl dX5_card_8 ?_
  refine V.aload_n (pc := 11) C dX5_card_11 0 rfl ?_
  refine V.iconst (pc := 12) C (v := (0 : Int32)) dX5_card_12 (by decide) ?_
  refine V.put (pc := 13) C (o := 20) (j := 13) (v := (0 : Int32)) (by decide) rfl rfl inX5 (by decide) (by decide) wf_618 tyX5 tyX5_ok nmX5 rfl rfl rfl rfl dX5_card_13 ?_
  refine V.aload_n (pc := 16) C dX5_card_16 0 rfl ?_
  refine V.getf (pc := 17) C (o := 20) (j := 3) (v := .ref 22) (by decide) rfl rfl inX5 (by decide) (by decide) wf_608 rfl dX5_card_17 ?_
  refine V.iconst (pc := 20) C (v := (1 : Int32)) dX5_card_20 (by decide) ?_
  refine V.iconst (pc := 21) C (v := (0 : Int32)) dX5_card_21 (by decide) ?_
  refine V.iast (pc := 22) C (o := 22) (h2 := (sI (sI (sI (sI h 20 8 (0 : Int32)) 20 12 (-9 : Int32)) 20 13 (0 : Int32)) 22 1 (0 : Int32))) (by decide) rfl rfl (by decide) rfl dX5_card_22 ?_
  refine V.aload_n (pc := 23) C dX5_card_23 0 rfl ?_
  refine V.getf (pc := 24) C (o := 20) (j := 5) (v := .ref 24) (by decide) rfl rfl inX5 (by decide) (by decide) wf_610 rfl dX5_card_24 ?_
  refine V.iconst (pc := 27) C (v := (1 : Int32)) dX5_card_27 (by decide) ?_
  refine V.iconst (pc := 28) C (v := (0 : Int32)) dX5_card_28 (by decide) ?_
  refine V.iast (pc := 29) C (o := 24) (h2 := (sI (sI (sI (sI (sI h 20 8 (0 : Int32)) 20 12 (-9 : Int32)) 20 13 (0 : Int32)) 22 1 (0 : Int32)) 24 1 (0 : Int32))) (by decide) rfl rfl (by decide) rfl dX5_card_29 ?_
  refine V.aload_n (pc := 30) C dX5_card_30 0 rfl ?_
  refine V.getf (pc := 31) C (o := 20) (j := 7) (v := .ref 26) (by decide) rfl rfl inX5 (by decide) (by decide) wf_612 rfl dX5_card_31 ?_
  refine V.iconst (pc := 34) C (v := (1 : Int32)) dX5_card_34 (by decide) ?_
  refine V.iconst (pc := 35) C (v := (1 : Int32)) dX5_card_35 (by decide) ?_
  refine V.iast (pc := 36) C (o := 26) (h2 := (sI (sI (sI (sI (sI (sI h 20 8 (0 : Int32)) 20 12 (-9 : Int32)) 20 13 (0 : Int32)) 22 1 (0 : Int32)) 24 1 (0 : Int32)) 26 1 (1 : Int32))) (by decide) rfl rfl (by decide) rfl dX5_card_36 ?_
  refine V.iconst (pc := 37) C (v := (0 : Int32)) dX5_card_37 (by decide) ?_
  refine V.istore_n (pc := 38) C (i := 1) (lv2 := [(1, .int (0 : Int32)), (0, .ref 20)]) dX5_card_38 rfl (by decide) rfl ?_
  refine V.aload_n (pc := 39) C dX5_card_39 1 rfl ?_
  obtain ⟨h1, ch1, hs⟩ := o_bind hs
  refine V.callV (pc := 40) C (o := 20) (rm := rmX5_next) (y := yX5_next) (bytes := cX5_next) (maxL := 2) (ret := none) (n := 0) (As := []) (rest := []) (rv := none) (h1 := h1) (st0 := [.ref 20]) (st2 := []) (by decide) rfl rfl (ct_X5_next (kL k) ch1) wf_704 wf_706 wf_22 wf_54 wf_707 rfl rfl (by decide +kernel) ⟨by decide, by decide⟩ rfl (Nat.le_of_ble_eq_true rfl) dX5_card_40 rfl rfl ?_
  refine V.sub [1, 0] rfl ?_
  exact tl_X5_card_43 C T fu _ _ hs
abbrev rmX5_isLine : Room := { frames := 1, cells := 0, slots := 0, locals := 22 }
set_option maxRecDepth 20000 in
theorem ct_X5_isLine (l : Launch) {x1 : Int32} {h hf : Hp} {r : Int32} (hs : X5_isLine x1 h = some (r, hf)) : Ct l yX5_isLine (Cond.code yX5_isLine cX5_isLine 2 (some .boolean) :: wsG) rmX5_isLine [.ref 20, .int x1] h (some (.int r)) hf := by
  refine Ct.of (by decide +kernel) (fun _ => Nat.le_of_ble_eq_true rfl) (fun k C T => ?_)
  unfold X5_isLine at hs
  show V k rmX5_isLine 2 0 [(0, .ref 20), (1, .int x1)] [] h
  refine V.iload_n (pc := 0) C dX5_isLine_0 1 rfl ?_
  refine V.iconst (pc := 1) C (v := (0 : Int32)) dX5_isLine_1 (by decide) ?_
  refine V.aload_n (pc := 2) C dX5_isLine_2 0 rfl ?_
  refine V.getf (pc := 3) C (o := 20) (j := 3) (v := .ref 22) (by decide) rfl rfl inX5 (by decide) (by decide) wf_608 rfl dX5_isLine_3 ?_
  refine V.iconst (pc := 6) C (v := (0 : Int32)) dX5_isLine_6 (by decide) ?_
  refine V.iald (pc := 7) C (o := 22) (v := (h.1 22 0)) (by decide) rfl rfl (by decide) rfl dX5_isLine_7 ?_
  refine V.iconst (pc := 8) C (v := (1 : Int32)) dX5_isLine_8 (by decide) ?_
  refine V.isub (pc := 9) C dX5_isLine_9 ?_
  obtain ⟨v2, h1, ch1, hs⟩ := o_b2 hs
  refine V.callS (pc := 10) C (rm := rmX5_in) (y := yX5_in) (bytes := cX5_in) (maxL := 3) (ret := (some .boolean)) (n := 3) (As := [.int x1, .int (0 : Int32), .int ((h.1 22 0) - (1 : Int32))]) (rest := []) (rv := (some (.int v2))) (h1 := h1) (st0 := [.int ((h.1 22 0) - (1 : Int32)), .int (0 : Int32), .int x1]) (st2 := [.int v2]) (ct_X5_in (kL k) ch1) wf_693 wf_694 wf_54 wf_695 rfl rfl (by decide +kernel) ⟨by decide, by decide⟩ rfl (Nat.le_of_ble_eq_true rfl) dX5_isLine_10 rfl rfl ?_
  obtain ⟨zz, hs⟩ := o_zb hs
  exact V.zret (pc := 13) C T zz hs dX5_isLine_13
