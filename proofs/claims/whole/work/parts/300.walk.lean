abbrev rmX4_within : Room := { frames := 0, cells := 0, slots := 0, locals := 0 }
set_option maxRecDepth 20000 in
theorem ct_X4_within (l : Launch) {x0 : Int32} {x1 : Int32} {x2 : Int32} {h hf : Hp} {r : Int32} (hs : X4_within x0 x1 x2 h = some (r, hf)) : Ct l yX4_within (Cond.code yX4_within cX4_within 3 (some .boolean) :: wsG) rmX4_within [.int x0, .int x1, .int x2] h (some (.int r)) hf := by
  refine Ct.of (by decide +kernel) (fun _ => Nat.le_of_ble_eq_true rfl) (fun k C T => ?_)
  unfold X4_within at hs
  show V k rmX4_within 3 0 [(0, .int x0), (1, .int x1), (2, .int x2)] [] h
  refine V.iload_n (pc := 0) C dX4_within_0 0 rfl ?_
  refine V.iload_n (pc := 1) C dX4_within_1 1 rfl ?_
  refine V.icmp_lt (pc := 2) C (tgt := 14) dX4_within_2 (by decide) (fun c1 => ?_) (fun c1 => ?_)
  · have hs := o_if c1 hs
    refine V.iconst (pc := 14) C (v := (0 : Int32)) dX4_within_14 (by decide) ?_
    exact V.zret (pc := 15) C T (by decide) hs dX4_within_15
  · have hs := o_el c1 hs
    refine V.iload_n (pc := 5) C dX4_within_5 0 rfl ?_
    refine V.iload_n (pc := 6) C dX4_within_6 2 rfl ?_
    refine V.icmp_gt (pc := 7) C (tgt := 14) dX4_within_7 (by decide) (fun c2 => ?_) (fun c2 => ?_)
    · have hs := o_if c2 hs
      refine V.iconst (pc := 14) C (v := (0 : Int32)) dX4_within_14 (by decide) ?_
      exact V.zret (pc := 15) C T (by decide) hs dX4_within_15
    · have hs := o_el c2 hs
      refine V.iconst (pc := 10) C (v := (1 : Int32)) dX4_within_10 (by decide) ?_
      refine V.goto (pc := 11) C (tgt := 15) dX4_within_11 (by decide) ?_
      exact V.zret (pc := 15) C T (by decide) hs dX4_within_15
abbrev rmX2_add : Room := { frames := 0, cells := 0, slots := 0, locals := 0 }
set_option maxRecDepth 20000 in
theorem ct_X2_add (l : Launch) {x1 : Int32} {h hf : Hp} {r : Int32} (hs : X2_add x1 h = some (r, hf)) : Ct l yX2_add (Cond.code yX2_add cX2_add 2 (some .boolean) :: wsG) rmX2_add [.ref 1, .int x1] h (some (.int r)) hf := by
  refine Ct.of (by decide +kernel) (fun _ => Nat.le_of_ble_eq_true rfl) (fun k C T => ?_)
  unfold X2_add at hs
  show V k rmX2_add 2 0 [(0, .ref 1), (1, .int x1)] [] h
  refine V.aload_n (pc := 0) C dX2_add_0 0 rfl ?_
  refine V.getf (pc := 1) C (o := 1) (j := 2) (v := .int (h.1 1 2)) (by decide) rfl rfl inX2 (by decide) (by decide) wf_74 rfl dX2_add_1 ?_
  refine V.sipush (pc := 4) C (v := (200 : Int32)) dX2_add_4 (by decide) ?_
  refine V.icmp_lt (pc := 7) C (tgt := 12) dX2_add_7 (by decide) (fun c1 => ?_) (fun c1 => ?_)
  · have hs := o_if c1 hs
    refine V.aload_n (pc := 12) C dX2_add_12 0 rfl ?_
    refine V.getf (pc := 13) C (o := 1) (j := 0) (v := .ref 2) (by decide) rfl rfl inX2 (by decide) (by decide) wf_72 rfl dX2_add_13 ?_
    refine V.aload_n (pc := 16) C dX2_add_16 0 rfl ?_
    refine V.getf (pc := 17) C (o := 1) (j := 2) (v := .int (h.1 1 2)) (by decide) rfl rfl inX2 (by decide) (by decide) wf_74 rfl dX2_add_17 ?_
    refine V.iload_n (pc := 20) C dX2_add_20 1 rfl ?_
    obtain ⟨h2, eh2, bh2, hs⟩ := o_st hs
    refine V.iast (pc := 21) C (o := 2) (h2 := h2) (by decide) rfl rfl bh2 eh2 dX2_add_21 ?_
    refine V.aload_n (pc := 22) C dX2_add_22 0 rfl ?_
    refine V.dup (pc := 23) C dX2_add_23 rfl ?_
    refine V.getf (pc := 24) C (o := 1) (j := 2) (v := .int (h2.1 1 2)) (by decide) rfl rfl inX2 (by decide) (by decide) wf_74 rfl dX2_add_24 ?_
    refine V.iconst (pc := 27) C (v := (1 : Int32)) dX2_add_27 (by decide) ?_
    refine V.iadd (pc := 28) C dX2_add_28 ?_
    refine V.put (pc := 29) C (o := 1) (j := 2) (v := ((h2.1 1 2) + (1 : Int32))) (by decide) rfl rfl inX2 (by decide) (by decide) wf_74 tyX2 tyX2_ok nmX2 rfl rfl rfl rfl dX2_add_29 ?_
    refine V.iconst (pc := 32) C (v := (1 : Int32)) dX2_add_32 (by decide) ?_
    exact V.zret (pc := 33) C T (by decide) hs dX2_add_33
  · have hs := o_el c1 hs
    refine V.iconst (pc := 10) C (v := (0 : Int32)) dX2_add_10 (by decide) ?_
    exact V.zret (pc := 11) C T (by decide) hs dX2_add_11
abbrev rmX4_type : Room := { frames := 1, cells := 0, slots := 0, locals := 22 }
set_option maxRecDepth 20000 in
theorem ct_X4_type (l : Launch) {x1 : Int32} {h hf : Hp} {r : Int32} (hs : X4_type x1 h = some (r, hf)) : Ct l yX4_type (Cond.code yX4_type cX4_type 2 (some .int) :: wsG) rmX4_type [.ref 0, .int x1] h (some (.int r)) hf := by
  refine Ct.of (by decide +kernel) (fun _ => Nat.le_of_ble_eq_true rfl) (fun k C T => ?_)
  unfold X4_type at hs
  show V k rmX4_type 2 0 [(0, .ref 0), (1, .int x1)] [] h
  refine V.iload_n (pc := 0) C dX4_type_0 1 rfl ?_
  refine V.iconst (pc := 1) C (v := (0 : Int32)) dX4_type_1 (by decide) ?_
  refine V.sipush (pc := 2) C (v := (255 : Int32)) dX4_type_2 (by decide) ?_
  obtain ⟨v2, h1, ch1, hs⟩ := o_b2 hs
  refine V.callS (pc := 5) C (rm := rmX4_within) (y := yX4_within) (bytes := cX4_within) (maxL := 3) (ret := (some .boolean)) (n := 3) (As := [.int x1, .int (0 : Int32), .int (255 : Int32)]) (rest := []) (rv := (some (.int v2))) (h1 := h1) (st0 := [.int (255 : Int32), .int (0 : Int32), .int x1]) (st2 := [.int v2]) (ct_X4_within (kL k) ch1) wf_236 wf_237 wf_49 wf_238 rfl rfl (by decide +kernel) ⟨by decide, by decide⟩ rfl (Nat.le_of_ble_eq_true rfl) dX4_type_5 rfl rfl ?_
  refine V.if_ne (pc := 8) C (tgt := 13) dX4_type_8 (by decide) (fun c3 => ?_) (fun c3 => ?_)
  · have hs := o_el c3 hs
    refine V.aload_n (pc := 13) C dX4_type_13 0 rfl ?_
    refine V.getf (pc := 14) C (o := 0) (j := 0) (v := .ref 1) (by decide) rfl rfl inX4 (by decide) (by decide) wf_195 rfl dX4_type_14 ?_
    refine V.iload_n (pc := 17) C dX4_type_17 1 rfl ?_
    obtain ⟨v5, h4, ch4, hs⟩ := o_b2 hs
    refine V.callV (pc := 18) C (o := 1) (rm := rmX2_add) (y := yX2_add) (bytes := cX2_add) (maxL := 2) (ret := (some .boolean)) (n := 1) (As := [.int x1]) (rest := []) (rv := (some (.int v5))) (h1 := h4) (st0 := [.int x1, .ref 1]) (st2 := [.int v5]) (by decide) rfl rfl (ct_X2_add (kL k) ch4) wf_239 wf_240 wf_241 wf_50 wf_242 rfl rfl (by decide +kernel) ⟨by decide, by decide⟩ rfl (Nat.le_of_ble_eq_true rfl) dX4_type_18 rfl rfl ?_
    refine V.if_eq (pc := 21) C (tgt := 34) dX4_type_21 (by decide) (fun c6 => ?_) (fun c6 => ?_)
    · have hs := o_if c6 hs
      refine V.bipush (pc := 34) C (v := (-3 : Int32)) dX4_type_34 (by decide) ?_
      exact V.iret (pc := 36) C T hs dX4_type_36
    · have hs := o_el c6 hs
      refine V.aload_n (pc := 24) C dX4_type_24 0 rfl ?_
      refine V.getf (pc := 25) C (o := 0) (j := 0) (v := .ref 1) (by decide) rfl rfl inX4 (by decide) (by decide) wf_195 rfl dX4_type_25 ?_
      refine V.getN (pc := 28) C (o := 1) (j := 2) (v := .int (h4.1 1 2)) (by decide) rfl rfl inX2 (by decide) (by decide) nw_1 rfl dX4_type_28 ?_
      refine V.goto (pc := 31) C (tgt := 36) dX4_type_31 (by decide) ?_
      exact V.iret (pc := 36) C T hs dX4_type_36
  · have hs := o_if c3 hs
    refine V.iconst (pc := 11) C (v := (-1 : Int32)) dX4_type_11 (by decide) ?_
    exact V.iret (pc := 12) C T hs dX4_type_12
abbrev rmX4_clear : Room := { frames := 0, cells := 0, slots := 0, locals := 0 }
set_option maxRecDepth 20000 in
theorem ct_X4_clear (l : Launch) {h hf : Hp} {r : Int32} (hs : X4_clear h = some (r, hf)) : Ct l yX4_clear (Cond.code yX4_clear cX4_clear 2 (some .int) :: wsG) rmX4_clear [.ref 0] h (some (.int r)) hf := by
  refine Ct.of (by decide +kernel) (fun _ => Nat.le_of_ble_eq_true rfl) (fun k C T => ?_)
  unfold X4_clear at hs
  show V k rmX4_clear 2 0 [(0, .ref 0)] [] h
  refine V.aload_n (pc := 0) C dX4_clear_0 0 rfl ?_
  refine V.getf (pc := 1) C (o := 0) (j := 0) (v := .ref 1) (by decide) rfl rfl inX4 (by decide) (by decide) wf_195 rfl dX4_clear_1 ?_
  refine V.getN (pc := 4) C (o := 1) (j := 2) (v := .int (h.1 1 2)) (by decide) rfl rfl inX2 (by decide) (by decide) nw_1 rfl dX4_clear_4 ?_
  refine V.istore_n (pc := 7) C (i := 1) (lv2 := [(1, .int (h.1 1 2)), (0, .ref 0)]) dX4_clear_7 rfl (by decide) rfl ?_
  refine V.aload_n (pc := 8) C dX4_clear_8 1 rfl ?_
  refine V.getf (pc := 9) C (o := 0) (j := 0) (v := .ref 1) (by decide) rfl rfl inX4 (by decide) (by decide) wf_195 rfl dX4_clear_9 ?_
  refine V.iconst (pc := 12) C (v := (0 : Int32)) dX4_clear_12 (by decide) ?_
  refine V.putN (pc := 13) C (o := 1) (j := 2) (v := (0 : Int32)) (by decide) rfl rfl inX2 (by decide) (by decide) nw_1 tyX2 tyX2_ok nmX2 rfl rfl rfl rfl dX4_clear_13 ?_
  refine V.iload_n (pc := 16) C dX4_clear_16 0 rfl ?_
  exact V.iret (pc := 17) C T hs dX4_clear_17
abbrev rmX3_erase_7 : Room := { frames := 0, cells := 0, slots := 0, locals := 0 }
set_option maxRecDepth 20000 in
theorem ct_X3_erase_7 (l : Launch) {h hf : Hp} (hs : X3_erase_7 h = some hf) : Ct l yX3_erase (Cond.code yX3_erase cX3_erase 1 none :: wsG) rmX3_erase_7 [.ref 7] h none hf := by
  refine Ct.of (by decide +kernel) (fun _ => Nat.le_of_ble_eq_true rfl) (fun k C T => ?_)
  unfold X3_erase_7 at hs
  show V k rmX3_erase_7 1 0 [(0, .ref 7)] [] h
  refine V.aload_n (pc := 0) C dX3_erase_0 0 rfl ?_
  refine V.iconst (pc := 1) C (v := (0 : Int32)) dX3_erase_1 (by decide) ?_
  refine V.put (pc := 2) C (o := 7) (j := 2) (v := (0 : Int32)) (by decide) rfl rfl inX3 (by decide) (by decide) wf_111 tyX3 tyX3_ok nmX3 rfl rfl rfl rfl dX3_erase_2 ?_
  refine V.aload_n (pc := 5) C dX3_erase_5 0 rfl ?_
  refine V.iconst (pc := 6) C (v := (0 : Int32)) dX3_erase_6 (by decide) ?_
  refine V.put (pc := 7) C (o := 7) (j := 3) (v := (0 : Int32)) (by decide) rfl rfl inX3 (by decide) (by decide) wf_116 tyX3 tyX3_ok nmX3 rfl rfl rfl rfl dX3_erase_7 ?_
  refine V.aload_n (pc := 10) C dX3_erase_10 0 rfl ?_
  refine V.iconst (pc := 11) C (v := (1 : Int32)) dX3_erase_11 (by decide) ?_
  refine V.put (pc := 12) C (o := 7) (j := 4) (v := (1 : Int32)) (by decide) rfl rfl inX3 (by decide) (by decide) wf_120 tyX3 tyX3_ok nmX3 rfl rfl rfl rfl dX3_erase_12 ?_
  exact V.vret (pc := 15) C T hs dX3_erase_15
abbrev rmX2_readDigits : Room := { frames := 1, cells := 0, slots := 0, locals := 22 }
set_option maxRecDepth 20000 in
theorem tb_X2_readDigits_104 {k : KX} (C : Cx k cX2_readDigits RX2 2 rmX2_readDigits) {hf : Hp} (T : Rx k none none hf) (s0 : Int32) (h : Hp) (hs : X2_readDigits_b104 s0 h = some hf) : V k rmX2_readDigits 2 104 [(0, .ref 1)] [.int s0] h := by
  unfold X2_readDigits_b104 at hs
  refine V.istore_n (pc := 104) C (i := 1) (lv2 := [(1, .int s0), (0, .ref 1)]) dX2_readDigits_104 rfl (by decide) rfl ?_
  refine V.aload_n (pc := 105) C dX2_readDigits_105 1 rfl ?_
  refine V.iload_n (pc := 106) C dX2_readDigits_106 0 rfl ?_
  refine V.if_ne (pc := 107) C (tgt := 119) dX2_readDigits_107 (by decide) (fun c10 => ?_) (fun c10 => ?_)
  · have hs := o_el c10 hs
    refine V.iconst (pc := 119) C (v := (4 : Int32)) dX2_readDigits_119 (by decide) ?_
    refine V.goto (pc := 120) C (tgt := 124) dX2_readDigits_120 (by decide) ?_
    refine V.put (pc := 124) C (o := 1) (j := 7) (v := (4 : Int32)) (by decide) rfl rfl inX2 (by decide) (by decide) wf_81 tyX2 tyX2_ok nmX2 rfl rfl rfl rfl dX2_readDigits_124 ?_
    exact V.vret (pc := 127) C T hs dX2_readDigits_127
  · have hs := o_if c10 hs
    refine V.aload_n (pc := 110) C dX2_readDigits_110 1 rfl ?_
    refine V.getf (pc := 111) C (o := 1) (j := 8) (v := .int (h.1 1 8)) (by decide) rfl rfl inX2 (by decide) (by decide) wf_82 rfl dX2_readDigits_111 ?_
    refine V.bipush (pc := 114) C (v := (99 : Int32)) dX2_readDigits_114 (by decide) ?_
    refine V.icmp_le (pc := 116) C (tgt := 123) dX2_readDigits_116 (by decide) (fun c11 => ?_) (fun c11 => ?_)
    · have hs := o_if c11 hs
      refine V.iconst (pc := 123) C (v := (2 : Int32)) dX2_readDigits_123 (by decide) ?_
      refine V.put (pc := 124) C (o := 1) (j := 7) (v := (2 : Int32)) (by decide) rfl rfl inX2 (by decide) (by decide) wf_81 tyX2 tyX2_ok nmX2 rfl rfl rfl rfl dX2_readDigits_124 ?_
      exact V.vret (pc := 127) C T hs dX2_readDigits_127
    · have hs := o_el c11 hs
      refine V.iconst (pc := 119) C (v := (4 : Int32)) dX2_readDigits_119 (by decide) ?_
      refine V.goto (pc := 120) C (tgt := 124) dX2_readDigits_120 (by decide) ?_
      refine V.put (pc := 124) C (o := 1) (j := 7) (v := (4 : Int32)) (by decide) rfl rfl inX2 (by decide) (by decide) wf_81 tyX2 tyX2_ok nmX2 rfl rfl rfl rfl dX2_readDigits_124 ?_
      exact V.vret (pc := 127) C T hs dX2_readDigits_127
set_option maxRecDepth 20000 in
theorem tb_X2_readDigits_103 {k : KX} (C : Cx k cX2_readDigits RX2 2 rmX2_readDigits) {hf : Hp} (T : Rx k none none hf) (h : Hp) (hs : X2_readDigits_b103 h = some hf) : V k rmX2_readDigits 2 103 [(0, .ref 1)] [] h := by
  unfold X2_readDigits_b103 at hs
  refine V.iconst (pc := 103) C (v := (0 : Int32)) dX2_readDigits_103 (by decide) ?_
  refine V.sub [0] rfl ?_
  exact tb_X2_readDigits_104 C T _ _ hs
set_option maxRecDepth 20000 in
theorem tb_X2_readDigits_72 {k : KX} (C : Cx k cX2_readDigits RX2 2 rmX2_readDigits) {hf : Hp} (T : Rx k none none hf) (h : Hp) (hs : X2_readDigits_b72 h = some hf) : V k rmX2_readDigits 2 72 [(0, .ref 1)] [] h := by
  unfold X2_readDigits_b72 at hs
  refine V.aload_n (pc := 72) C dX2_readDigits_72 0 rfl ?_
  refine V.getf (pc := 73) C (o := 1) (j := 0) (v := .ref 2) (by decide) rfl rfl inX2 (by decide) (by decide) wf_72 rfl dX2_readDigits_73 ?_
  refine V.aload_n (pc := 76) C dX2_readDigits_76 0 rfl ?_
  refine V.getf (pc := 77) C (o := 1) (j := 5) (v := .int (h.1 1 5)) (by decide) rfl rfl inX2 (by decide) (by decide) wf_79 rfl dX2_readDigits_77 ?_
  obtain ⟨v7, ev7, bv7, hs⟩ := o_ld hs
  refine V.iald (pc := 80) C (o := 2) (v := v7) (by decide) rfl rfl bv7 ev7 dX2_readDigits_80 ?_
  refine V.bipush (pc := 81) C (v := (48 : Int32)) dX2_readDigits_81 (by decide) ?_
  refine V.icmp_ne (pc := 83) C (tgt := 103) dX2_readDigits_83 (by decide) (fun c8 => ?_) (fun c8 => ?_)
  · have hs := o_el c8 hs
    refine V.sub [0] rfl ?_
    exact tb_X2_readDigits_103 C T  _ hs
  · have hs := o_if c8 hs
    refine V.aload_n (pc := 86) C dX2_readDigits_86 0 rfl ?_
    refine V.getf (pc := 87) C (o := 1) (j := 6) (v := .int (h.1 1 6)) (by decide) rfl rfl inX2 (by decide) (by decide) wf_80 rfl dX2_readDigits_87 ?_
    refine V.aload_n (pc := 90) C dX2_readDigits_90 0 rfl ?_
    refine V.getf (pc := 91) C (o := 1) (j := 5) (v := .int (h.1 1 5)) (by decide) rfl rfl inX2 (by decide) (by decide) wf_79 rfl dX2_readDigits_91 ?_
    refine V.isub (pc := 94) C dX2_readDigits_94 ?_
    refine V.iconst (pc := 95) C (v := (1 : Int32)) dX2_readDigits_95 (by decide) ?_
    refine V.icmp_le (pc := 96) C (tgt := 103) dX2_readDigits_96 (by decide) (fun c9 => ?_) (fun c9 => ?_)
    · have hs := o_if c9 hs
      refine V.sub [0] rfl ?_
      exact tb_X2_readDigits_103 C T  _ hs
    · have hs := o_el c9 hs
      refine V.iconst (pc := 99) C (v := (1 : Int32)) dX2_readDigits_99 (by decide) ?_
      refine V.goto (pc := 100) C (tgt := 104) dX2_readDigits_100 (by decide) ?_
      refine V.sub [0] rfl ?_
      exact tb_X2_readDigits_104 C T _ _ hs
set_option maxRecDepth 20000 in
theorem tb_X2_readDigits_0 {k : KX} (C : Cx k cX2_readDigits RX2 2 rmX2_readDigits) {hf : Hp} (T : Rx k none none hf) {K0 : Hp → Option (Hp)} (hK0 : ∀ (h : Hp), K0 h = some hf → V k rmX2_readDigits 2 0 [(0, .ref 1)] [] h) (h : Hp) (hs : X2_readDigits_b0 K0 h = some hf) : V k rmX2_readDigits 2 0 [(0, .ref 1)] [] h := by
  unfold X2_readDigits_b0 at hs
  refine V.aload_n (pc := 0) C dX2_readDigits_0 0 rfl ?_
  refine V.getf (pc := 1) C (o := 1) (j := 6) (v := .int (h.1 1 6)) (by decide) rfl rfl inX2 (by decide) (by decide) wf_80 rfl dX2_readDigits_1 ?_
  refine V.aload_n (pc := 4) C dX2_readDigits_4 0 rfl ?_
  refine V.getf (pc := 5) C (o := 1) (j := 2) (v := .int (h.1 1 2)) (by decide) rfl rfl inX2 (by decide) (by decide) wf_74 rfl dX2_readDigits_5 ?_
  refine V.icmp_ge (pc := 8) C (tgt := 72) dX2_readDigits_8 (by decide) (fun c1 => ?_) (fun c1 => ?_)
  · have hs := o_if c1 hs
    refine V.sub [0] rfl ?_
    exact tb_X2_readDigits_72 C T  _ hs
  · have hs := o_el c1 hs
    refine V.aload_n (pc := 11) C dX2_readDigits_11 0 rfl ?_
    refine V.getf (pc := 12) C (o := 1) (j := 0) (v := .ref 2) (by decide) rfl rfl inX2 (by decide) (by decide) wf_72 rfl dX2_readDigits_12 ?_
    refine V.aload_n (pc := 15) C dX2_readDigits_15 0 rfl ?_
    refine V.getf (pc := 16) C (o := 1) (j := 6) (v := .int (h.1 1 6)) (by decide) rfl rfl inX2 (by decide) (by decide) wf_80 rfl dX2_readDigits_16 ?_
    obtain ⟨v2, ev2, bv2, hs⟩ := o_ld hs
    refine V.iald (pc := 19) C (o := 2) (v := v2) (by decide) rfl rfl bv2 ev2 dX2_readDigits_19 ?_
    refine V.bipush (pc := 20) C (v := (48 : Int32)) dX2_readDigits_20 (by decide) ?_
    refine V.bipush (pc := 22) C (v := (57 : Int32)) dX2_readDigits_22 (by decide) ?_
    obtain ⟨v4, h3, ch3, hs⟩ := o_b2 hs
    refine V.callN (pc := 24) C (rm := rmX4_within) (y := yX4_within) (bytes := cX4_within) (maxL := 3) (ret := (some .boolean)) (n := 3) (As := [.int v2, .int (48 : Int32), .int (57 : Int32)]) (rest := []) (rv := (some (.int v4))) (h1 := h3) (st0 := [.int (57 : Int32), .int (48 : Int32), .int v2]) (st2 := [.int v4]) (ct_X4_within (kL k) ch3) wf_238 nw_21 wf_237 wf_49 rfl rfl (by decide +kernel) ⟨by decide, by decide⟩ rfl (Nat.le_of_ble_eq_true rfl) dX2_readDigits_24 rfl rfl ?_
    refine V.if_eq (pc := 27) C (tgt := 72) dX2_readDigits_27 (by decide) (fun c5 => ?_) (fun c5 => ?_)
    · have hs := o_if c5 hs
      refine V.sub [0] rfl ?_
      exact tb_X2_readDigits_72 C T  _ hs
    · have hs := o_el c5 hs
      refine V.aload_n (pc := 30) C dX2_readDigits_30 0 rfl ?_
      refine V.aload_n (pc := 31) C dX2_readDigits_31 0 rfl ?_
      refine V.getf (pc := 32) C (o := 1) (j := 8) (v := .int (h3.1 1 8)) (by decide) rfl rfl inX2 (by decide) (by decide) wf_82 rfl dX2_readDigits_32 ?_
      refine V.bipush (pc := 35) C (v := (10 : Int32)) dX2_readDigits_35 (by decide) ?_
      refine V.imul (pc := 37) C dX2_readDigits_37 ?_
      refine V.aload_n (pc := 38) C dX2_readDigits_38 0 rfl ?_
      refine V.getf (pc := 39) C (o := 1) (j := 0) (v := .ref 2) (by decide) rfl rfl inX2 (by decide) (by decide) wf_72 rfl dX2_readDigits_39 ?_
      refine V.aload_n (pc := 42) C dX2_readDigits_42 0 rfl ?_
      refine V.getf (pc := 43) C (o := 1) (j := 6) (v := .int (h3.1 1 6)) (by decide) rfl rfl inX2 (by decide) (by decide) wf_80 rfl dX2_readDigits_43 ?_
      obtain ⟨v6, ev6, bv6, hs⟩ := o_ld hs
      refine V.iald (pc := 46) C (o := 2) (v := v6) (by decide) rfl rfl bv6 ev6 dX2_readDigits_46 ?_
      refine V.iadd (pc := 47) C dX2_readDigits_47 ?_
      refine V.bipush (pc := 48) C (v := (48 : Int32)) dX2_readDigits_48 (by decide) ?_
      refine V.isub (pc := 50) C dX2_readDigits_50 ?_
      refine V.bipush (pc := 51) C (v := (100 : Int32)) dX2_readDigits_51 (by decide) ?_
      refine V.mmin (pc := 53) C ⟨wf_272, wf_273, wf_55, wf_274⟩ (by decide) (Nat.le_of_ble_eq_true rfl) dX2_readDigits_53 ?_
      refine V.put (pc := 56) C (o := 1) (j := 8) (v := (if (100 : Int32) < ((((h3.1 1 8) * (10 : Int32)) + v6) - (48 : Int32)) then (100 : Int32) else ((((h3.1 1 8) * (10 : Int32)) + v6) - (48 : Int32)))) (by decide) rfl rfl inX2 (by decide) (by decide) wf_82 tyX2 tyX2_ok nmX2 rfl rfl rfl rfl dX2_readDigits_56 ?_
      refine V.aload_n (pc := 59) C dX2_readDigits_59 0 rfl ?_
      refine V.dup (pc := 60) C dX2_readDigits_60 rfl ?_
      refine V.getf (pc := 61) C (o := 1) (j := 6) (v := .int (h3.1 1 6)) (by decide) rfl rfl inX2 (by decide) (by decide) wf_80 rfl dX2_readDigits_61 ?_
      refine V.iconst (pc := 64) C (v := (1 : Int32)) dX2_readDigits_64 (by decide) ?_
      refine V.iadd (pc := 65) C dX2_readDigits_65 ?_
      refine V.put (pc := 66) C (o := 1) (j := 6) (v := ((h3.1 1 6) + (1 : Int32))) (by decide) rfl rfl inX2 (by decide) (by decide) wf_80 tyX2 tyX2_ok nmX2 rfl rfl rfl rfl dX2_readDigits_66 ?_
      refine V.goto (pc := 69) C (tgt := 0) dX2_readDigits_69 (by decide) ?_
      refine V.sub [0] rfl ?_
      exact hK0  _ hs
theorem tl_X2_readDigits_0 {k : KX} (C : Cx k cX2_readDigits RX2 2 rmX2_readDigits) {hf : Hp} (T : Rx k none none hf) : ∀ (n : Nat) (h : Hp), X2_readDigits_l0 n h = some hf → V k rmX2_readDigits 2 0 [(0, .ref 1)] [] h := by
  intro n
  induction n with
  | zero => intro h hs; cases hs
  | succ n ih => intro h hs; exact tb_X2_readDigits_0 C T ih h hs
set_option maxRecDepth 20000 in
theorem ct_X2_readDigits (l : Launch) {h hf : Hp} (hs : X2_readDigits h = some hf) : Ct l yX2_readDigits (Cond.code yX2_readDigits cX2_readDigits 2 none :: wsG) rmX2_readDigits [.ref 1] h none hf := by
  refine Ct.of (by decide +kernel) (fun _ => Nat.le_of_ble_eq_true rfl) (fun k C T => ?_)
  unfold X2_readDigits at hs
  show V k rmX2_readDigits 2 0 [(0, .ref 1)] [] h
  refine V.sub [0] rfl ?_
  exact tl_X2_readDigits_0 C T fu  _ hs
abbrev rmX2_readLetters : Room := { frames := 1, cells := 0, slots := 0, locals := 22 }
set_option maxRecDepth 20000 in
theorem tb_X2_readLetters_56 {k : KX} (C : Cx k cX2_readLetters RX2 1 rmX2_readLetters) {hf : Hp} (T : Rx k none none hf) (h : Hp) (hs : X2_readLetters_b56 h = some hf) : V k rmX2_readLetters 1 56 [(0, .ref 1)] [] h := by
  unfold X2_readLetters_b56 at hs
  refine V.aload_n (pc := 56) C dX2_readLetters_56 0 rfl ?_
  refine V.aload_n (pc := 57) C dX2_readLetters_57 0 rfl ?_
  refine V.getf (pc := 58) C (o := 1) (j := 6) (v := .int (h.1 1 6)) (by decide) rfl rfl inX2 (by decide) (by decide) wf_80 rfl dX2_readLetters_58 ?_
  refine V.aload_n (pc := 61) C dX2_readLetters_61 0 rfl ?_
  refine V.getf (pc := 62) C (o := 1) (j := 5) (v := .int (h.1 1 5)) (by decide) rfl rfl inX2 (by decide) (by decide) wf_79 rfl dX2_readLetters_62 ?_
  refine V.isub (pc := 65) C dX2_readLetters_65 ?_
  refine V.iconst (pc := 66) C (v := (1 : Int32)) dX2_readLetters_66 (by decide) ?_
  refine V.icmp_ne (pc := 67) C (tgt := 74) dX2_readLetters_67 (by decide) (fun c7 => ?_) (fun c7 => ?_)
  · have hs := o_el c7 hs
    refine V.iconst (pc := 74) C (v := (4 : Int32)) dX2_readLetters_74 (by decide) ?_
    refine V.put (pc := 75) C (o := 1) (j := 7) (v := (4 : Int32)) (by decide) rfl rfl inX2 (by decide) (by decide) wf_81 tyX2 tyX2_ok nmX2 rfl rfl rfl rfl dX2_readLetters_75 ?_
    exact V.vret (pc := 78) C T hs dX2_readLetters_78
  · have hs := o_if c7 hs
    refine V.iconst (pc := 70) C (v := (1 : Int32)) dX2_readLetters_70 (by decide) ?_
    refine V.goto (pc := 71) C (tgt := 75) dX2_readLetters_71 (by decide) ?_
    refine V.put (pc := 75) C (o := 1) (j := 7) (v := (1 : Int32)) (by decide) rfl rfl inX2 (by decide) (by decide) wf_81 tyX2 tyX2_ok nmX2 rfl rfl rfl rfl dX2_readLetters_75 ?_
    exact V.vret (pc := 78) C T hs dX2_readLetters_78
set_option maxRecDepth 20000 in
theorem tb_X2_readLetters_13 {k : KX} (C : Cx k cX2_readLetters RX2 1 rmX2_readLetters) {hf : Hp} (T : Rx k none none hf) {K13 : Hp → Option (Hp)} (hK13 : ∀ (h : Hp), K13 h = some hf → V k rmX2_readLetters 1 13 [(0, .ref 1)] [] h) (h : Hp) (hs : X2_readLetters_b13 K13 h = some hf) : V k rmX2_readLetters 1 13 [(0, .ref 1)] [] h := by
  unfold X2_readLetters_b13 at hs
  refine V.aload_n (pc := 13) C dX2_readLetters_13 0 rfl ?_
  refine V.getf (pc := 14) C (o := 1) (j := 6) (v := .int (h.1 1 6)) (by decide) rfl rfl inX2 (by decide) (by decide) wf_80 rfl dX2_readLetters_14 ?_
  refine V.aload_n (pc := 17) C dX2_readLetters_17 0 rfl ?_
  refine V.getf (pc := 18) C (o := 1) (j := 2) (v := .int (h.1 1 2)) (by decide) rfl rfl inX2 (by decide) (by decide) wf_74 rfl dX2_readLetters_18 ?_
  refine V.icmp_ge (pc := 21) C (tgt := 56) dX2_readLetters_21 (by decide) (fun c2 => ?_) (fun c2 => ?_)
  · have hs := o_if c2 hs
    refine V.sub [0] rfl ?_
    exact tb_X2_readLetters_56 C T  _ hs
  · have hs := o_el c2 hs
    refine V.aload_n (pc := 24) C dX2_readLetters_24 0 rfl ?_
    refine V.getf (pc := 25) C (o := 1) (j := 0) (v := .ref 2) (by decide) rfl rfl inX2 (by decide) (by decide) wf_72 rfl dX2_readLetters_25 ?_
    refine V.aload_n (pc := 28) C dX2_readLetters_28 0 rfl ?_
    refine V.getf (pc := 29) C (o := 1) (j := 6) (v := .int (h.1 1 6)) (by decide) rfl rfl inX2 (by decide) (by decide) wf_80 rfl dX2_readLetters_29 ?_
    obtain ⟨v3, ev3, bv3, hs⟩ := o_ld hs
    refine V.iald (pc := 32) C (o := 2) (v := v3) (by decide) rfl rfl bv3 ev3 dX2_readLetters_32 ?_
    refine V.bipush (pc := 33) C (v := (97 : Int32)) dX2_readLetters_33 (by decide) ?_
    refine V.bipush (pc := 35) C (v := (122 : Int32)) dX2_readLetters_35 (by decide) ?_
    obtain ⟨v5, h4, ch4, hs⟩ := o_b2 hs
    refine V.callN (pc := 37) C (rm := rmX4_within) (y := yX4_within) (bytes := cX4_within) (maxL := 3) (ret := (some .boolean)) (n := 3) (As := [.int v3, .int (97 : Int32), .int (122 : Int32)]) (rest := []) (rv := (some (.int v5))) (h1 := h4) (st0 := [.int (122 : Int32), .int (97 : Int32), .int v3]) (st2 := [.int v5]) (ct_X4_within (kL k) ch4) wf_238 nw_21 wf_237 wf_49 rfl rfl (by decide +kernel) ⟨by decide, by decide⟩ rfl (Nat.le_of_ble_eq_true rfl) dX2_readLetters_37 rfl rfl ?_
    refine V.if_eq (pc := 40) C (tgt := 56) dX2_readLetters_40 (by decide) (fun c6 => ?_) (fun c6 => ?_)
    · have hs := o_if c6 hs
      refine V.sub [0] rfl ?_
      exact tb_X2_readLetters_56 C T  _ hs
    · have hs := o_el c6 hs
      refine V.aload_n (pc := 43) C dX2_readLetters_43 0 rfl ?_
      refine V.dup (pc := 44) C dX2_readLetters_44 rfl ?_
      refine V.getf (pc := 45) C (o := 1) (j := 6) (v := .int (h4.1 1 6)) (by decide) rfl rfl inX2 (by decide) (by decide) wf_80 rfl dX2_readLetters_45 ?_
      refine V.iconst (pc := 48) C (v := (1 : Int32)) dX2_readLetters_48 (by decide) ?_
      refine V.iadd (pc := 49) C dX2_readLetters_49 ?_
      refine V.put (pc := 50) C (o := 1) (j := 6) (v := ((h4.1 1 6) + (1 : Int32))) (by decide) rfl rfl inX2 (by decide) (by decide) wf_80 tyX2 tyX2_ok nmX2 rfl rfl rfl rfl dX2_readLetters_50 ?_
      refine V.goto (pc := 53) C (tgt := 13) dX2_readLetters_53 (by decide) ?_
      refine V.sub [0] rfl ?_
      exact hK13  _ hs
theorem tl_X2_readLetters_13 {k : KX} (C : Cx k cX2_readLetters RX2 1 rmX2_readLetters) {hf : Hp} (T : Rx k none none hf) : ∀ (n : Nat) (h : Hp), X2_readLetters_l13 n h = some hf → V k rmX2_readLetters 1 13 [(0, .ref 1)] [] h := by
  intro n
  induction n with
  | zero => intro h hs; cases hs
  | succ n ih => intro h hs; exact tb_X2_readLetters_13 C T ih h hs
set_option maxRecDepth 20000 in
theorem ct_X2_readLetters (l : Launch) {h hf : Hp} (hs : X2_readLetters h = some hf) : Ct l yX2_readLetters (Cond.code yX2_readLetters cX2_readLetters 1 none :: wsG) rmX2_readLetters [.ref 1] h none hf := by
  refine Ct.of (by decide +kernel) (fun _ => Nat.le_of_ble_eq_true rfl) (fun k C T => ?_)
  unfold X2_readLetters at hs
  show V k rmX2_readLetters 1 0 [(0, .ref 1)] [] h
  refine V.aload_n (pc := 0) C dX2_readLetters_0 0 rfl ?_
  refine V.aload_n (pc := 1) C dX2_readLetters_1 0 rfl ?_
  refine V.getf (pc := 2) C (o := 1) (j := 0) (v := .ref 2) (by decide) rfl rfl inX2 (by decide) (by decide) wf_72 rfl dX2_readLetters_2 ?_
  refine V.aload_n (pc := 5) C dX2_readLetters_5 0 rfl ?_
  refine V.getf (pc := 6) C (o := 1) (j := 5) (v := .int (h.1 1 5)) (by decide) rfl rfl inX2 (by decide) (by decide) wf_79 rfl dX2_readLetters_6 ?_
  obtain ⟨v1, ev1, bv1, hs⟩ := o_ld hs
  refine V.iald (pc := 9) C (o := 2) (v := v1) (by decide) rfl rfl bv1 ev1 dX2_readLetters_9 ?_
  refine V.put (pc := 10) C (o := 1) (j := 8) (v := v1) (by decide) rfl rfl inX2 (by decide) (by decide) wf_82 tyX2 tyX2_ok nmX2 rfl rfl rfl rfl dX2_readLetters_10 ?_
  refine V.sub [0] rfl ?_
  exact tl_X2_readLetters_13 C T fu  _ hs
abbrev rmX2_step : Room := { frames := 2, cells := 0, slots := 0, locals := 43 }
set_option maxRecDepth 20000 in
theorem tb_X2_step_38 {k : KX} (C : Cx k cX2_step RX2 1 rmX2_step) {hf : Hp} (T : Rx k none none hf) (h : Hp) (hs : X2_step_b38 h = some hf) : V k rmX2_step 1 38 [(0, .ref 1)] [] h := by
  unfold X2_step_b38 at hs
  refine V.aload_n (pc := 38) C dX2_step_38 0 rfl ?_
  refine V.aload_n (pc := 39) C dX2_step_39 0 rfl ?_
  refine V.getf (pc := 40) C (o := 1) (j := 6) (v := .int (h.1 1 6)) (by decide) rfl rfl inX2 (by decide) (by decide) wf_80 rfl dX2_step_40 ?_
  refine V.put (pc := 43) C (o := 1) (j := 5) (v := (h.1 1 6)) (by decide) rfl rfl inX2 (by decide) (by decide) wf_79 tyX2 tyX2_ok nmX2 rfl rfl rfl rfl dX2_step_43 ?_
  refine V.aload_n (pc := 46) C dX2_step_46 0 rfl ?_
  refine V.iconst (pc := 47) C (v := (4 : Int32)) dX2_step_47 (by decide) ?_
  refine V.put (pc := 48) C (o := 1) (j := 7) (v := (4 : Int32)) (by decide) rfl rfl inX2 (by decide) (by decide) wf_81 tyX2 tyX2_ok nmX2 rfl rfl rfl rfl dX2_step_48 ?_
  refine V.aload_n (pc := 51) C dX2_step_51 0 rfl ?_
  refine V.iconst (pc := 52) C (v := (0 : Int32)) dX2_step_52 (by decide) ?_
  refine V.put (pc := 53) C (o := 1) (j := 8) (v := (0 : Int32)) (by decide) rfl rfl inX2 (by decide) (by decide) wf_82 tyX2 tyX2_ok nmX2 rfl rfl rfl rfl dX2_step_53 ?_
  refine V.aload_n (pc := 56) C dX2_step_56 0 rfl ?_
  refine V.getf (pc := 57) C (o := 1) (j := 5) (v := .int (h.1 1 6)) (by decide) rfl rfl inX2 (by decide) (by decide) wf_79 rfl dX2_step_57 ?_
  refine V.aload_n (pc := 60) C dX2_step_60 0 rfl ?_
  refine V.getf (pc := 61) C (o := 1) (j := 2) (v := .int (h.1 1 2)) (by decide) rfl rfl inX2 (by decide) (by decide) wf_74 rfl dX2_step_61 ?_
  refine V.icmp_lt (pc := 64) C (tgt := 75) dX2_step_64 (by decide) (fun c4 => ?_) (fun c4 => ?_)
  · have hs := o_if c4 hs
    refine V.aload_n (pc := 75) C dX2_step_75 0 rfl ?_
    refine V.getf (pc := 76) C (o := 1) (j := 0) (v := .ref 2) (by decide) rfl rfl inX2 (by decide) (by decide) wf_72 rfl dX2_step_76 ?_
    refine V.aload_n (pc := 79) C dX2_step_79 0 rfl ?_
    refine V.getf (pc := 80) C (o := 1) (j := 5) (v := .int (h.1 1 6)) (by decide) rfl rfl inX2 (by decide) (by decide) wf_79 rfl dX2_step_80 ?_
    obtain ⟨v5, ev5, bv5, hs⟩ := o_ld hs
    refine V.iald (pc := 83) C (o := 2) (v := v5) (by decide) rfl rfl bv5 ev5 dX2_step_83 ?_
    refine V.bipush (pc := 84) C (v := (97 : Int32)) dX2_step_84 (by decide) ?_
    refine V.bipush (pc := 86) C (v := (122 : Int32)) dX2_step_86 (by decide) ?_
    obtain ⟨v7, h6, ch6, hs⟩ := o_b2 hs
    refine V.callN (pc := 88) C (rm := rmX4_within) (y := yX4_within) (bytes := cX4_within) (maxL := 3) (ret := (some .boolean)) (n := 3) (As := [.int v5, .int (97 : Int32), .int (122 : Int32)]) (rest := []) (rv := (some (.int v7))) (h1 := h6) (st0 := [.int (122 : Int32), .int (97 : Int32), .int v5]) (st2 := [.int v7]) (ct_X4_within (kL k) ch6) wf_238 nw_21 wf_237 wf_49 rfl rfl (by decide +kernel) ⟨by decide, by decide⟩ rfl (Nat.le_of_ble_eq_true rfl) dX2_step_88 rfl rfl ?_
    refine V.if_eq (pc := 91) C (tgt := 101) dX2_step_91 (by decide) (fun c8 => ?_) (fun c8 => ?_)
    · have hs := o_if c8 hs
      refine V.aload_n (pc := 101) C dX2_step_101 0 rfl ?_
      refine V.getf (pc := 102) C (o := 1) (j := 0) (v := .ref 2) (by decide) rfl rfl inX2 (by decide) (by decide) wf_72 rfl dX2_step_102 ?_
      refine V.aload_n (pc := 105) C dX2_step_105 0 rfl ?_
      refine V.getf (pc := 106) C (o := 1) (j := 5) (v := .int (h6.1 1 5)) (by decide) rfl rfl inX2 (by decide) (by decide) wf_79 rfl dX2_step_106 ?_
      obtain ⟨v9, ev9, bv9, hs⟩ := o_ld hs
      refine V.iald (pc := 109) C (o := 2) (v := v9) (by decide) rfl rfl bv9 ev9 dX2_step_109 ?_
      refine V.bipush (pc := 110) C (v := (48 : Int32)) dX2_step_110 (by decide) ?_
      refine V.bipush (pc := 112) C (v := (57 : Int32)) dX2_step_112 (by decide) ?_
      obtain ⟨v11, h10, ch10, hs⟩ := o_b2 hs
      refine V.callN (pc := 114) C (rm := rmX4_within) (y := yX4_within) (bytes := cX4_within) (maxL := 3) (ret := (some .boolean)) (n := 3) (As := [.int v9, .int (48 : Int32), .int (57 : Int32)]) (rest := []) (rv := (some (.int v11))) (h1 := h10) (st0 := [.int (57 : Int32), .int (48 : Int32), .int v9]) (st2 := [.int v11]) (ct_X4_within (kL k) ch10) wf_238 nw_21 wf_237 wf_49 rfl rfl (by decide +kernel) ⟨by decide, by decide⟩ rfl (Nat.le_of_ble_eq_true rfl) dX2_step_114 rfl rfl ?_
      refine V.if_eq (pc := 117) C (tgt := 127) dX2_step_117 (by decide) (fun c12 => ?_) (fun c12 => ?_)
      · have hs := o_if c12 hs
        refine V.aload_n (pc := 127) C dX2_step_127 0 rfl ?_
        refine V.getf (pc := 128) C (o := 1) (j := 0) (v := .ref 2) (by decide) rfl rfl inX2 (by decide) (by decide) wf_72 rfl dX2_step_128 ?_
        refine V.aload_n (pc := 131) C dX2_step_131 0 rfl ?_
        refine V.getf (pc := 132) C (o := 1) (j := 5) (v := .int (h10.1 1 5)) (by decide) rfl rfl inX2 (by decide) (by decide) wf_79 rfl dX2_step_132 ?_
        obtain ⟨v13, ev13, bv13, hs⟩ := o_ld hs
        refine V.iald (pc := 135) C (o := 2) (v := v13) (by decide) rfl rfl bv13 ev13 dX2_step_135 ?_
        refine V.bipush (pc := 136) C (v := (59 : Int32)) dX2_step_136 (by decide) ?_
        refine V.icmp_ne (pc := 138) C (tgt := 156) dX2_step_138 (by decide) (fun c14 => ?_) (fun c14 => ?_)
        · have hs := o_el c14 hs
          exact V.vret (pc := 156) C T hs dX2_step_156
        · have hs := o_if c14 hs
          refine V.aload_n (pc := 141) C dX2_step_141 0 rfl ?_
          refine V.iconst (pc := 142) C (v := (3 : Int32)) dX2_step_142 (by decide) ?_
          refine V.put (pc := 143) C (o := 1) (j := 7) (v := (3 : Int32)) (by decide) rfl rfl inX2 (by decide) (by decide) wf_81 tyX2 tyX2_ok nmX2 rfl rfl rfl rfl dX2_step_143 ?_
          refine V.aload_n (pc := 146) C dX2_step_146 0 rfl ?_
          refine V.dup (pc := 147) C dX2_step_147 rfl ?_
          refine V.getf (pc := 148) C (o := 1) (j := 6) (v := .int (h10.1 1 6)) (by decide) rfl rfl inX2 (by decide) (by decide) wf_80 rfl dX2_step_148 ?_
          refine V.iconst (pc := 151) C (v := (1 : Int32)) dX2_step_151 (by decide) ?_
          refine V.iadd (pc := 152) C dX2_step_152 ?_
          refine V.put (pc := 153) C (o := 1) (j := 6) (v := ((h10.1 1 6) + (1 : Int32))) (by decide) rfl rfl inX2 (by decide) (by decide) wf_80 tyX2 tyX2_ok nmX2 rfl rfl rfl rfl dX2_step_153 ?_
          exact V.vret (pc := 156) C T hs dX2_step_156
      · have hs := o_el c12 hs
        refine V.aload_n (pc := 120) C dX2_step_120 0 rfl ?_
        obtain ⟨h15, ch15, hs⟩ := o_bind hs
        refine V.callV (pc := 121) C (o := 1) (rm := rmX2_readDigits) (y := yX2_readDigits) (bytes := cX2_readDigits) (maxL := 2) (ret := none) (n := 0) (As := []) (rest := []) (rv := none) (h1 := h15) (st0 := [.ref 1]) (st2 := []) (by decide) rfl rfl (ct_X2_readDigits (kL k) ch15) wf_268 wf_270 wf_2 wf_50 wf_271 rfl rfl (by decide +kernel) ⟨by decide, by decide⟩ rfl (Nat.le_of_ble_eq_true rfl) dX2_step_121 rfl rfl ?_
        refine V.goto (pc := 124) C (tgt := 156) dX2_step_124 (by decide) ?_
        exact V.vret (pc := 156) C T hs dX2_step_156
    · have hs := o_el c8 hs
      refine V.aload_n (pc := 94) C dX2_step_94 0 rfl ?_
      obtain ⟨h16, ch16, hs⟩ := o_bind hs
      refine V.callV (pc := 95) C (o := 1) (rm := rmX2_readLetters) (y := yX2_readLetters) (bytes := cX2_readLetters) (maxL := 1) (ret := none) (n := 0) (As := []) (rest := []) (rv := none) (h1 := h16) (st0 := [.ref 1]) (st2 := []) (by decide) rfl rfl (ct_X2_readLetters (kL k) ch16) wf_264 wf_266 wf_1 wf_50 wf_267 rfl rfl (by decide +kernel) ⟨by decide, by decide⟩ rfl (Nat.le_of_ble_eq_true rfl) dX2_step_95 rfl rfl ?_
      refine V.goto (pc := 98) C (tgt := 156) dX2_step_98 (by decide) ?_
      exact V.vret (pc := 156) C T hs dX2_step_156
  · have hs := o_el c4 hs
    refine V.aload_n (pc := 67) C dX2_step_67 0 rfl ?_
    refine V.iconst (pc := 68) C (v := (0 : Int32)) dX2_step_68 (by decide) ?_
    refine V.put (pc := 69) C (o := 1) (j := 7) (v := (0 : Int32)) (by decide) rfl rfl inX2 (by decide) (by decide) wf_81 tyX2 tyX2_ok nmX2 rfl rfl rfl rfl dX2_step_69 ?_
    refine V.goto (pc := 72) C (tgt := 156) dX2_step_72 (by decide) ?_
    exact V.vret (pc := 156) C T hs dX2_step_156
set_option maxRecDepth 20000 in
theorem tb_X2_step_0 {k : KX} (C : Cx k cX2_step RX2 1 rmX2_step) {hf : Hp} (T : Rx k none none hf) {K0 : Hp → Option (Hp)} (hK0 : ∀ (h : Hp), K0 h = some hf → V k rmX2_step 1 0 [(0, .ref 1)] [] h) (h : Hp) (hs : X2_step_b0 K0 h = some hf) : V k rmX2_step 1 0 [(0, .ref 1)] [] h := by
  unfold X2_step_b0 at hs
  refine V.aload_n (pc := 0) C dX2_step_0 0 rfl ?_
  refine V.getf (pc := 1) C (o := 1) (j := 6) (v := .int (h.1 1 6)) (by decide) rfl rfl inX2 (by decide) (by decide) wf_80 rfl dX2_step_1 ?_
  refine V.aload_n (pc := 4) C dX2_step_4 0 rfl ?_
  refine V.getf (pc := 5) C (o := 1) (j := 2) (v := .int (h.1 1 2)) (by decide) rfl rfl inX2 (by decide) (by decide) wf_74 rfl dX2_step_5 ?_
  refine V.icmp_ge (pc := 8) C (tgt := 38) dX2_step_8 (by decide) (fun c1 => ?_) (fun c1 => ?_)
  · have hs := o_if c1 hs
    refine V.sub [0] rfl ?_
    exact tb_X2_step_38 C T  _ hs
  · have hs := o_el c1 hs
    refine V.aload_n (pc := 11) C dX2_step_11 0 rfl ?_
    refine V.getf (pc := 12) C (o := 1) (j := 0) (v := .ref 2) (by decide) rfl rfl inX2 (by decide) (by decide) wf_72 rfl dX2_step_12 ?_
    refine V.aload_n (pc := 15) C dX2_step_15 0 rfl ?_
    refine V.getf (pc := 16) C (o := 1) (j := 6) (v := .int (h.1 1 6)) (by decide) rfl rfl inX2 (by decide) (by decide) wf_80 rfl dX2_step_16 ?_
    obtain ⟨v2, ev2, bv2, hs⟩ := o_ld hs
    refine V.iald (pc := 19) C (o := 2) (v := v2) (by decide) rfl rfl bv2 ev2 dX2_step_19 ?_
    refine V.bipush (pc := 20) C (v := (32 : Int32)) dX2_step_20 (by decide) ?_
    refine V.icmp_ne (pc := 22) C (tgt := 38) dX2_step_22 (by decide) (fun c3 => ?_) (fun c3 => ?_)
    · have hs := o_el c3 hs
      refine V.sub [0] rfl ?_
      exact tb_X2_step_38 C T  _ hs
    · have hs := o_if c3 hs
      refine V.aload_n (pc := 25) C dX2_step_25 0 rfl ?_
      refine V.dup (pc := 26) C dX2_step_26 rfl ?_
      refine V.getf (pc := 27) C (o := 1) (j := 6) (v := .int (h.1 1 6)) (by decide) rfl rfl inX2 (by decide) (by decide) wf_80 rfl dX2_step_27 ?_
      refine V.iconst (pc := 30) C (v := (1 : Int32)) dX2_step_30 (by decide) ?_
      refine V.iadd (pc := 31) C dX2_step_31 ?_
      refine V.put (pc := 32) C (o := 1) (j := 6) (v := ((h.1 1 6) + (1 : Int32))) (by decide) rfl rfl inX2 (by decide) (by decide) wf_80 tyX2 tyX2_ok nmX2 rfl rfl rfl rfl dX2_step_32 ?_
      refine V.goto (pc := 35) C (tgt := 0) dX2_step_35 (by decide) ?_
      refine V.sub [0] rfl ?_
      exact hK0  _ hs
theorem tl_X2_step_0 {k : KX} (C : Cx k cX2_step RX2 1 rmX2_step) {hf : Hp} (T : Rx k none none hf) : ∀ (n : Nat) (h : Hp), X2_step_l0 n h = some hf → V k rmX2_step 1 0 [(0, .ref 1)] [] h := by
  intro n
  induction n with
  | zero => intro h hs; cases hs
  | succ n ih => intro h hs; exact tb_X2_step_0 C T ih h hs
set_option maxRecDepth 20000 in
theorem ct_X2_step (l : Launch) {h hf : Hp} (hs : X2_step h = some hf) : Ct l yX2_step (Cond.code yX2_step cX2_step 1 none :: wsG) rmX2_step [.ref 1] h none hf := by
  refine Ct.of (by decide +kernel) (fun _ => Nat.le_of_ble_eq_true rfl) (fun k C T => ?_)
  unfold X2_step at hs
  show V k rmX2_step 1 0 [(0, .ref 1)] [] h
  refine V.sub [0] rfl ?_
  exact tl_X2_step_0 C T fu  _ hs
abbrev rmX2_mayBegin : Room := { frames := 0, cells := 0, slots := 0, locals := 0 }
set_option maxRecDepth 20000 in
theorem ct_X2_mayBegin (l : Launch) {h hf : Hp} {r : Int32} (hs : X2_mayBegin h = some (r, hf)) : Ct l yX2_mayBegin (Cond.code yX2_mayBegin cX2_mayBegin 2 (some .boolean) :: wsG) rmX2_mayBegin [.ref 1, .ref 7] h (some (.int r)) hf := by
  refine Ct.of (by decide +kernel) (fun _ => Nat.le_of_ble_eq_true rfl) (fun k C T => ?_)
  unfold X2_mayBegin at hs
  show V k rmX2_mayBegin 2 0 [(0, .ref 1), (1, .ref 7)] [] h
  refine V.aload_n (pc := 0) C dX2_mayBegin_0 0 rfl ?_
  refine V.getf (pc := 1) C (o := 1) (j := 7) (v := .int (h.1 1 7)) (by decide) rfl rfl inX2 (by decide) (by decide) wf_81 rfl dX2_mayBegin_1 ?_
  refine V.iconst (pc := 4) C (v := (1 : Int32)) dX2_mayBegin_4 (by decide) ?_
  refine V.icmp_eq (pc := 5) C (tgt := 10) dX2_mayBegin_5 (by decide) (fun c1 => ?_) (fun c1 => ?_)
  · have hs := o_if c1 hs
    refine V.aload_n (pc := 10) C dX2_mayBegin_10 0 rfl ?_
    refine V.getf (pc := 11) C (o := 1) (j := 8) (v := .int (h.1 1 8)) (by decide) rfl rfl inX2 (by decide) (by decide) wf_82 rfl dX2_mayBegin_11 ?_
    by_cases c5_0 : (h.1 1 8) = (108 : Int32)
    · have hs := o_if c5_0 hs
      refine V.look (pc := 14) C (tgt := 48) dX2_mayBegin_14 (by decide) (by rw [c5_0]) (by decide) ?_
      refine V.aload_n (pc := 48) C dX2_mayBegin_48 1 rfl ?_
      refine V.getN (pc := 49) C (o := 7) (j := 2) (v := .int (h.1 7 2)) (by decide) rfl rfl inX3 (by decide) (by decide) nw_5 rfl dX2_mayBegin_49 ?_
      refine V.bipush (pc := 52) C (v := (6 : Int32)) dX2_mayBegin_52 (by decide) ?_
      refine V.icmp_ge (pc := 54) C (tgt := 61) dX2_mayBegin_54 (by decide) (fun c2 => ?_) (fun c2 => ?_)
      · have hs := o_if c2 hs
        refine V.iconst (pc := 61) C (v := (0 : Int32)) dX2_mayBegin_61 (by decide) ?_
        exact V.zret (pc := 62) C T (by decide) hs dX2_mayBegin_62
      · have hs := o_el c2 hs
        refine V.iconst (pc := 57) C (v := (1 : Int32)) dX2_mayBegin_57 (by decide) ?_
        refine V.goto (pc := 58) C (tgt := 62) dX2_mayBegin_58 (by decide) ?_
        exact V.zret (pc := 62) C T (by decide) hs dX2_mayBegin_62
    have hs := o_el c5_0 hs
    by_cases c5_1 : (h.1 1 8) = (119 : Int32)
    · have hs := o_if c5_1 hs
      refine V.look (pc := 14) C (tgt := 63) dX2_mayBegin_14 (by decide) (by rw [c5_1]) (by decide) ?_
      refine V.aload_n (pc := 63) C dX2_mayBegin_63 1 rfl ?_
      refine V.getN (pc := 64) C (o := 7) (j := 3) (v := .int (h.1 7 3)) (by decide) rfl rfl inX3 (by decide) (by decide) nw_9 rfl dX2_mayBegin_64 ?_
      refine V.bipush (pc := 67) C (v := (10 : Int32)) dX2_mayBegin_67 (by decide) ?_
      refine V.icmp_ge (pc := 69) C (tgt := 76) dX2_mayBegin_69 (by decide) (fun c3 => ?_) (fun c3 => ?_)
      · have hs := o_if c3 hs
        refine V.iconst (pc := 76) C (v := (0 : Int32)) dX2_mayBegin_76 (by decide) ?_
        exact V.zret (pc := 77) C T (by decide) hs dX2_mayBegin_77
      · have hs := o_el c3 hs
        refine V.iconst (pc := 72) C (v := (1 : Int32)) dX2_mayBegin_72 (by decide) ?_
        refine V.goto (pc := 73) C (tgt := 77) dX2_mayBegin_73 (by decide) ?_
        exact V.zret (pc := 77) C T (by decide) hs dX2_mayBegin_77
    have hs := o_el c5_1 hs
    by_cases c5_2 : (h.1 1 8) = (122 : Int32)
    · have hs := o_if c5_2 hs
      refine V.look (pc := 14) C (tgt := 78) dX2_mayBegin_14 (by decide) (by rw [c5_2]) (by decide) ?_
      refine V.aload_n (pc := 78) C dX2_mayBegin_78 0 rfl ?_
      refine V.getf (pc := 79) C (o := 1) (j := 4) (v := .int (h.1 1 4)) (by decide) rfl rfl inX2 (by decide) (by decide) wf_78 rfl dX2_mayBegin_79 ?_
      refine V.if_ne (pc := 82) C (tgt := 89) dX2_mayBegin_82 (by decide) (fun c4 => ?_) (fun c4 => ?_)
      · have hs := o_el c4 hs
        refine V.iconst (pc := 89) C (v := (0 : Int32)) dX2_mayBegin_89 (by decide) ?_
        exact V.zret (pc := 90) C T (by decide) hs dX2_mayBegin_90
      · have hs := o_if c4 hs
        refine V.iconst (pc := 85) C (v := (1 : Int32)) dX2_mayBegin_85 (by decide) ?_
        refine V.goto (pc := 86) C (tgt := 90) dX2_mayBegin_86 (by decide) ?_
        exact V.zret (pc := 90) C T (by decide) hs dX2_mayBegin_90
    have hs := o_el c5_2 hs
    have ic5_0 : ((h.1 1 8)).toInt ≠ 108 := fun z => c5_0 (Int32.toInt_inj.mp z)
    have ic5_1 : ((h.1 1 8)).toInt ≠ 119 := fun z => c5_1 (Int32.toInt_inj.mp z)
    have ic5_2 : ((h.1 1 8)).toInt ≠ 122 := fun z => c5_2 (Int32.toInt_inj.mp z)
    refine V.look (pc := 14) C (tgt := 91) dX2_mayBegin_14 (by decide) (look3 ic5_0 ic5_1 ic5_2) (by decide) ?_
    refine V.iconst (pc := 91) C (v := (0 : Int32)) dX2_mayBegin_91 (by decide) ?_
    exact V.zret (pc := 92) C T (by decide) hs dX2_mayBegin_92
  · have hs := o_el c1 hs
    refine V.iconst (pc := 8) C (v := (0 : Int32)) dX2_mayBegin_8 (by decide) ?_
    exact V.zret (pc := 9) C T (by decide) hs dX2_mayBegin_9
abbrev rmX3_hasPiece_7 : Room := { frames := 1, cells := 0, slots := 0, locals := 22 }
set_option maxRecDepth 20000 in
theorem ct_X3_hasPiece_7 (l : Launch) {x1 : Int32} {h hf : Hp} {r : Int32} (hs : X3_hasPiece_7 x1 h = some (r, hf)) : Ct l yX3_hasPiece (Cond.code yX3_hasPiece cX3_hasPiece 2 (some .boolean) :: wsG) rmX3_hasPiece_7 [.ref 7, .int x1] h (some (.int r)) hf := by
  refine Ct.of (by decide +kernel) (fun _ => Nat.le_of_ble_eq_true rfl) (fun k C T => ?_)
  unfold X3_hasPiece_7 at hs
  show V k rmX3_hasPiece_7 2 0 [(0, .ref 7), (1, .int x1)] [] h
  refine V.iload_n (pc := 0) C dX3_hasPiece_0 1 rfl ?_
  refine V.iconst (pc := 1) C (v := (0 : Int32)) dX3_hasPiece_1 (by decide) ?_
  refine V.aload_n (pc := 2) C dX3_hasPiece_2 0 rfl ?_
  refine V.getf (pc := 3) C (o := 7) (j := 3) (v := .int (h.1 7 3)) (by decide) rfl rfl inX3 (by decide) (by decide) wf_116 rfl dX3_hasPiece_3 ?_
  refine V.iconst (pc := 6) C (v := (1 : Int32)) dX3_hasPiece_6 (by decide) ?_
  refine V.isub (pc := 7) C dX3_hasPiece_7 ?_
  obtain ⟨v2, h1, ch1, hs⟩ := o_b2 hs
  refine V.callN (pc := 8) C (rm := rmX4_within) (y := yX4_within) (bytes := cX4_within) (maxL := 3) (ret := (some .boolean)) (n := 3) (As := [.int x1, .int (0 : Int32), .int ((h.1 7 3) - (1 : Int32))]) (rest := []) (rv := (some (.int v2))) (h1 := h1) (st0 := [.int ((h.1 7 3) - (1 : Int32)), .int (0 : Int32), .int x1]) (st2 := [.int v2]) (ct_X4_within (kL k) ch1) wf_238 nw_22 wf_237 wf_49 rfl rfl (by decide +kernel) ⟨by decide, by decide⟩ rfl (Nat.le_of_ble_eq_true rfl) dX3_hasPiece_8 rfl rfl ?_
  obtain ⟨zz, hs⟩ := o_zb hs
  exact V.zret (pc := 11) C T zz hs dX3_hasPiece_11
abbrev rmX2_mayBe : Room := { frames := 2, cells := 0, slots := 0, locals := 43 }
set_option maxRecDepth 20000 in
theorem ct_X2_mayBe (l : Launch) {x1 : Int32} {x2 : Int32} {h hf : Hp} {r : Int32} (hs : X2_mayBe x1 x2 h = some (r, hf)) : Ct l yX2_mayBe (Cond.code yX2_mayBe cX2_mayBe 4 (some .boolean) :: wsG) rmX2_mayBe [.ref 1, .int x1, .int x2, .ref 7] h (some (.int r)) hf := by
  refine Ct.of (by decide +kernel) (fun _ => Nat.le_of_ble_eq_true rfl) (fun k C T => ?_)
  unfold X2_mayBe at hs
  show V k rmX2_mayBe 4 0 [(0, .ref 1), (1, .int x1), (2, .int x2), (3, .ref 7)] [] h
  refine V.iload_n (pc := 0) C dX2_mayBe_0 1 rfl ?_
  refine V.bipush (pc := 1) C (v := (108 : Int32)) dX2_mayBe_1 (by decide) ?_
  refine V.icmp_ne (pc := 3) C (tgt := 17) dX2_mayBe_3 (by decide) (fun c1 => ?_) (fun c1 => ?_)
  · have hs := o_el c1 hs
    refine V.iload_n (pc := 17) C dX2_mayBe_17 1 rfl ?_
    refine V.bipush (pc := 18) C (v := (122 : Int32)) dX2_mayBe_18 (by decide) ?_
    refine V.icmp_ne (pc := 20) C (tgt := 33) dX2_mayBe_20 (by decide) (fun c2 => ?_) (fun c2 => ?_)
    · have hs := o_el c2 hs
      refine V.iload_n (pc := 33) C dX2_mayBe_33 2 rfl ?_
      by_cases c15_0 : x2 = (0 : Int32)
      · have hs := o_if c15_0 hs
        refine V.tin (pc := 34) C (tgt := 64) (off := 30) dX2_mayBe_34 c15_0 (by decide) (by decide) (by decide) (by decide) ?_
        refine V.aload_n (pc := 64) C dX2_mayBe_64 0 rfl ?_
        refine V.getf (pc := 65) C (o := 1) (j := 8) (v := .int (h.1 1 8)) (by decide) rfl rfl inX2 (by decide) (by decide) wf_82 rfl dX2_mayBe_65 ?_
        refine V.iconst (pc := 68) C (v := (1 : Int32)) dX2_mayBe_68 (by decide) ?_
        refine V.bipush (pc := 69) C (v := (12 : Int32)) dX2_mayBe_69 (by decide) ?_
        obtain ⟨v4, h3, ch3, hs⟩ := o_b2 hs
        refine V.callN (pc := 71) C (rm := rmX4_within) (y := yX4_within) (bytes := cX4_within) (maxL := 3) (ret := (some .boolean)) (n := 3) (As := [.int (h.1 1 8), .int (1 : Int32), .int (12 : Int32)]) (rest := []) (rv := (some (.int v4))) (h1 := h3) (st0 := [.int (12 : Int32), .int (1 : Int32), .int (h.1 1 8)]) (st2 := [.int v4]) (ct_X4_within (kL k) ch3) wf_238 nw_21 wf_237 wf_49 rfl rfl (by decide +kernel) ⟨by decide, by decide⟩ rfl (Nat.le_of_ble_eq_true rfl) dX2_mayBe_71 rfl rfl ?_
        obtain ⟨zz, hs⟩ := o_zb hs
        exact V.zret (pc := 74) C T zz hs dX2_mayBe_74
      have hs := o_el c15_0 hs
      by_cases c15_1 : x2 = (1 : Int32)
      · have hs := o_if c15_1 hs
        refine V.tin (pc := 34) C (tgt := 75) (off := 41) dX2_mayBe_34 c15_1 (by decide) (by decide) (by decide) (by decide) ?_
        refine V.aload_n (pc := 75) C dX2_mayBe_75 0 rfl ?_
        refine V.getf (pc := 76) C (o := 1) (j := 8) (v := .int (h.1 1 8)) (by decide) rfl rfl inX2 (by decide) (by decide) wf_82 rfl dX2_mayBe_76 ?_
        refine V.iconst (pc := 79) C (v := (0 : Int32)) dX2_mayBe_79 (by decide) ?_
        refine V.bipush (pc := 80) C (v := (9 : Int32)) dX2_mayBe_80 (by decide) ?_
        obtain ⟨v6, h5, ch5, hs⟩ := o_b2 hs
        refine V.callN (pc := 82) C (rm := rmX4_within) (y := yX4_within) (bytes := cX4_within) (maxL := 3) (ret := (some .boolean)) (n := 3) (As := [.int (h.1 1 8), .int (0 : Int32), .int (9 : Int32)]) (rest := []) (rv := (some (.int v6))) (h1 := h5) (st0 := [.int (9 : Int32), .int (0 : Int32), .int (h.1 1 8)]) (st2 := [.int v6]) (ct_X4_within (kL k) ch5) wf_238 nw_21 wf_237 wf_49 rfl rfl (by decide +kernel) ⟨by decide, by decide⟩ rfl (Nat.le_of_ble_eq_true rfl) dX2_mayBe_82 rfl rfl ?_
        obtain ⟨zz, hs⟩ := o_zb hs
        exact V.zret (pc := 85) C T zz hs dX2_mayBe_85
      have hs := o_el c15_1 hs
      by_cases c15_2 : x2 = (2 : Int32)
      · have hs := o_if c15_2 hs
        refine V.tin (pc := 34) C (tgt := 86) (off := 52) dX2_mayBe_34 c15_2 (by decide) (by decide) (by decide) (by decide) ?_
        refine V.aload_n (pc := 86) C dX2_mayBe_86 3 rfl ?_
        refine V.aload_n (pc := 87) C dX2_mayBe_87 0 rfl ?_
        refine V.getf (pc := 88) C (o := 1) (j := 8) (v := .int (h.1 1 8)) (by decide) rfl rfl inX2 (by decide) (by decide) wf_82 rfl dX2_mayBe_88 ?_
        obtain ⟨v8, h7, ch7, hs⟩ := o_b2 hs
        refine V.callV (pc := 91) C (o := 7) (rm := rmX3_hasPiece_7) (y := yX3_hasPiece) (bytes := cX3_hasPiece) (maxL := 2) (ret := (some .boolean)) (n := 1) (As := [.int (h.1 1 8)]) (rest := []) (rv := (some (.int v8))) (h1 := h7) (st0 := [.int (h.1 1 8), .ref 7]) (st2 := [.int v8]) (by decide) rfl rfl (ct_X3_hasPiece_7 (kL k) ch7) wf_287 wf_288 wf_289 wf_51 wf_290 rfl rfl (by decide +kernel) ⟨by decide, by decide⟩ rfl (Nat.le_of_ble_eq_true rfl) dX2_mayBe_91 rfl rfl ?_
        refine V.if_ne (pc := 94) C (tgt := 106) dX2_mayBe_94 (by decide) (fun c9 => ?_) (fun c9 => ?_)
        · have hs := o_el c9 hs
          refine V.iconst (pc := 106) C (v := (1 : Int32)) dX2_mayBe_106 (by decide) ?_
          refine V.goto (pc := 107) C (tgt := 111) dX2_mayBe_107 (by decide) ?_
          exact V.zret (pc := 111) C T (by decide) hs dX2_mayBe_111
        · have hs := o_if c9 hs
          refine V.aload_n (pc := 97) C dX2_mayBe_97 0 rfl ?_
          refine V.getf (pc := 98) C (o := 1) (j := 8) (v := .int (h7.1 1 8)) (by decide) rfl rfl inX2 (by decide) (by decide) wf_82 rfl dX2_mayBe_98 ?_
          refine V.bipush (pc := 101) C (v := (99 : Int32)) dX2_mayBe_101 (by decide) ?_
          refine V.icmp_ne (pc := 103) C (tgt := 110) dX2_mayBe_103 (by decide) (fun c10 => ?_) (fun c10 => ?_)
          · have hs := o_el c10 hs
            refine V.iconst (pc := 110) C (v := (0 : Int32)) dX2_mayBe_110 (by decide) ?_
            exact V.zret (pc := 111) C T (by decide) hs dX2_mayBe_111
          · have hs := o_if c10 hs
            refine V.iconst (pc := 106) C (v := (1 : Int32)) dX2_mayBe_106 (by decide) ?_
            refine V.goto (pc := 107) C (tgt := 111) dX2_mayBe_107 (by decide) ?_
            exact V.zret (pc := 111) C T (by decide) hs dX2_mayBe_111
      have hs := o_el c15_2 hs
      by_cases c15_3 : x2 = (3 : Int32)
      · have hs := o_if c15_3 hs
        refine V.tin (pc := 34) C (tgt := 112) (off := 78) dX2_mayBe_34 c15_3 (by decide) (by decide) (by decide) (by decide) ?_
        refine V.aload_n (pc := 112) C dX2_mayBe_112 0 rfl ?_
        refine V.getf (pc := 113) C (o := 1) (j := 8) (v := .int (h.1 1 8)) (by decide) rfl rfl inX2 (by decide) (by decide) wf_82 rfl dX2_mayBe_113 ?_
        refine V.iconst (pc := 116) C (v := (0 : Int32)) dX2_mayBe_116 (by decide) ?_
        refine V.bipush (pc := 117) C (v := (12 : Int32)) dX2_mayBe_117 (by decide) ?_
        obtain ⟨v12, h11, ch11, hs⟩ := o_b2 hs
        refine V.callN (pc := 119) C (rm := rmX4_within) (y := yX4_within) (bytes := cX4_within) (maxL := 3) (ret := (some .boolean)) (n := 3) (As := [.int (h.1 1 8), .int (0 : Int32), .int (12 : Int32)]) (rest := []) (rv := (some (.int v12))) (h1 := h11) (st0 := [.int (12 : Int32), .int (0 : Int32), .int (h.1 1 8)]) (st2 := [.int v12]) (ct_X4_within (kL k) ch11) wf_238 nw_21 wf_237 wf_49 rfl rfl (by decide +kernel) ⟨by decide, by decide⟩ rfl (Nat.le_of_ble_eq_true rfl) dX2_mayBe_119 rfl rfl ?_
        obtain ⟨zz, hs⟩ := o_zb hs
        exact V.zret (pc := 122) C T zz hs dX2_mayBe_122
      have hs := o_el c15_3 hs
      have ic15_0 : (x2).toInt ≠ 0 := fun z => c15_0 (Int32.toInt_inj.mp z)
      have ic15_1 : (x2).toInt ≠ 1 := fun z => c15_1 (Int32.toInt_inj.mp z)
      have ic15_2 : (x2).toInt ≠ 2 := fun z => c15_2 (Int32.toInt_inj.mp z)
      have ic15_3 : (x2).toInt ≠ 3 := fun z => c15_3 (Int32.toInt_inj.mp z)
      refine V.tout (pc := 34) C (tgt := 123) dX2_mayBe_34 (by omega) (by decide) ?_
      refine V.aload_n (pc := 123) C dX2_mayBe_123 0 rfl ?_
      refine V.getf (pc := 124) C (o := 1) (j := 8) (v := .int (h.1 1 8)) (by decide) rfl rfl inX2 (by decide) (by decide) wf_82 rfl dX2_mayBe_124 ?_
      refine V.iconst (pc := 127) C (v := (0 : Int32)) dX2_mayBe_127 (by decide) ?_
      refine V.aload_n (pc := 128) C dX2_mayBe_128 0 rfl ?_
      refine V.getf (pc := 129) C (o := 1) (j := 1) (v := .ref 3) (by decide) rfl rfl inX2 (by decide) (by decide) wf_73 rfl dX2_mayBe_129 ?_
      refine V.iconst (pc := 132) C (v := (0 : Int32)) dX2_mayBe_132 (by decide) ?_
      refine V.iald (pc := 133) C (o := 3) (v := (h.1 3 0)) (by decide) rfl rfl (by decide) rfl dX2_mayBe_133 ?_
      refine V.iconst (pc := 134) C (v := (1 : Int32)) dX2_mayBe_134 (by decide) ?_
      refine V.isub (pc := 135) C dX2_mayBe_135 ?_
      obtain ⟨v14, h13, ch13, hs⟩ := o_b2 hs
      refine V.callN (pc := 136) C (rm := rmX4_within) (y := yX4_within) (bytes := cX4_within) (maxL := 3) (ret := (some .boolean)) (n := 3) (As := [.int (h.1 1 8), .int (0 : Int32), .int ((h.1 3 0) - (1 : Int32))]) (rest := []) (rv := (some (.int v14))) (h1 := h13) (st0 := [.int ((h.1 3 0) - (1 : Int32)), .int (0 : Int32), .int (h.1 1 8)]) (st2 := [.int v14]) (ct_X4_within (kL k) ch13) wf_238 nw_21 wf_237 wf_49 rfl rfl (by decide +kernel) ⟨by decide, by decide⟩ rfl (Nat.le_of_ble_eq_true rfl) dX2_mayBe_136 rfl rfl ?_
      obtain ⟨zz, hs⟩ := o_zb hs
      exact V.zret (pc := 139) C T zz hs dX2_mayBe_139
    · have hs := o_if c2 hs
      refine V.aload_n (pc := 23) C dX2_mayBe_23 0 rfl ?_
      refine V.getf (pc := 24) C (o := 1) (j := 8) (v := .int (h.1 1 8)) (by decide) rfl rfl inX2 (by decide) (by decide) wf_82 rfl dX2_mayBe_24 ?_
      refine V.iconst (pc := 27) C (v := (1 : Int32)) dX2_mayBe_27 (by decide) ?_
      refine V.iconst (pc := 28) C (v := (5 : Int32)) dX2_mayBe_28 (by decide) ?_
      obtain ⟨v17, h16, ch16, hs⟩ := o_b2 hs
      refine V.callN (pc := 29) C (rm := rmX4_within) (y := yX4_within) (bytes := cX4_within) (maxL := 3) (ret := (some .boolean)) (n := 3) (As := [.int (h.1 1 8), .int (1 : Int32), .int (5 : Int32)]) (rest := []) (rv := (some (.int v17))) (h1 := h16) (st0 := [.int (5 : Int32), .int (1 : Int32), .int (h.1 1 8)]) (st2 := [.int v17]) (ct_X4_within (kL k) ch16) wf_238 nw_21 wf_237 wf_49 rfl rfl (by decide +kernel) ⟨by decide, by decide⟩ rfl (Nat.le_of_ble_eq_true rfl) dX2_mayBe_29 rfl rfl ?_
      obtain ⟨zz, hs⟩ := o_zb hs
      exact V.zret (pc := 32) C T zz hs dX2_mayBe_32
  · have hs := o_if c1 hs
    refine V.aload_n (pc := 6) C dX2_mayBe_6 0 rfl ?_
    refine V.getf (pc := 7) C (o := 1) (j := 8) (v := .int (h.1 1 8)) (by decide) rfl rfl inX2 (by decide) (by decide) wf_82 rfl dX2_mayBe_7 ?_
    refine V.iconst (pc := 10) C (v := (1 : Int32)) dX2_mayBe_10 (by decide) ?_
    refine V.bipush (pc := 11) C (v := (60 : Int32)) dX2_mayBe_11 (by decide) ?_
    obtain ⟨v19, h18, ch18, hs⟩ := o_b2 hs
    refine V.callN (pc := 13) C (rm := rmX4_within) (y := yX4_within) (bytes := cX4_within) (maxL := 3) (ret := (some .boolean)) (n := 3) (As := [.int (h.1 1 8), .int (1 : Int32), .int (60 : Int32)]) (rest := []) (rv := (some (.int v19))) (h1 := h18) (st0 := [.int (60 : Int32), .int (1 : Int32), .int (h.1 1 8)]) (st2 := [.int v19]) (ct_X4_within (kL k) ch18) wf_238 nw_21 wf_237 wf_49 rfl rfl (by decide +kernel) ⟨by decide, by decide⟩ rfl (Nat.le_of_ble_eq_true rfl) dX2_mayBe_13 rfl rfl ?_
    obtain ⟨zz, hs⟩ := o_zb hs
    exact V.zret (pc := 16) C T zz hs dX2_mayBe_16
abbrev rmX2_readNumbers : Room := { frames := 3, cells := 0, slots := 0, locals := 66 }
set_option maxRecDepth 20000 in
theorem tb_X2_readNumbers_15 {k : KX} (C : Cx k cX2_readNumbers RX2 5 rmX2_readNumbers) {r : Int32} {hf : Hp} (T : Rx k (some .boolean) (some (.int r)) hf) {K15 : Int32 → Int32 → Int32 → Hp → Option (Int32 × Hp)} (hK15 : ∀ (x1 : Int32) (x3 : Int32) (x4 : Int32) (h : Hp), K15 x1 x3 x4 h = some (r, hf) → V k rmX2_readNumbers 5 15 [(0, .ref 1), (1, .int x1), (2, .ref 7), (3, .int x3), (4, .int x4)] [] h) (x1 : Int32) (x3 : Int32) (x4 : Int32) (h : Hp) (hs : X2_readNumbers_b15 K15 x1 x3 x4 h = some (r, hf)) : V k rmX2_readNumbers 5 15 [(0, .ref 1), (1, .int x1), (2, .ref 7), (3, .int x3), (4, .int x4)] [] h := by
  unfold X2_readNumbers_b15 at hs
  refine V.iload (pc := 15) C dX2_readNumbers_15 4 rfl ?_
  refine V.iload_n (pc := 17) C dX2_readNumbers_17 3 rfl ?_
  refine V.icmp_ge (pc := 18) C (tgt := 63) dX2_readNumbers_18 (by decide) (fun c2 => ?_) (fun c2 => ?_)
  · have hs := o_if c2 hs
    refine V.iconst (pc := 63) C (v := (1 : Int32)) dX2_readNumbers_63 (by decide) ?_
    exact V.zret (pc := 64) C T (by decide) hs dX2_readNumbers_64
  · have hs := o_el c2 hs
    refine V.aload_n (pc := 21) C dX2_readNumbers_21 0 rfl ?_
    obtain ⟨h3, ch3, hs⟩ := o_bind hs
    refine V.callV (pc := 22) C (o := 1) (rm := rmX2_step) (y := yX2_step) (bytes := cX2_step) (maxL := 1) (ret := none) (n := 0) (As := []) (rest := []) (rv := none) (h1 := h3) (st0 := [.ref 1]) (st2 := []) (by decide) rfl rfl (ct_X2_step (kL k) ch3) wf_259 wf_261 wf_0 wf_50 wf_262 rfl rfl (by decide +kernel) ⟨by decide, by decide⟩ rfl (Nat.le_of_ble_eq_true rfl) dX2_readNumbers_22 rfl rfl ?_
    refine V.aload_n (pc := 25) C dX2_readNumbers_25 0 rfl ?_
    refine V.getf (pc := 26) C (o := 1) (j := 7) (v := .int (h3.1 1 7)) (by decide) rfl rfl inX2 (by decide) (by decide) wf_81 rfl dX2_readNumbers_26 ?_
    refine V.iconst (pc := 29) C (v := (2 : Int32)) dX2_readNumbers_29 (by decide) ?_
    refine V.icmp_ne (pc := 30) C (tgt := 44) dX2_readNumbers_30 (by decide) (fun c4 => ?_) (fun c4 => ?_)
    · have hs := o_el c4 hs
      refine V.iconst (pc := 44) C (v := (0 : Int32)) dX2_readNumbers_44 (by decide) ?_
      exact V.zret (pc := 45) C T (by decide) hs dX2_readNumbers_45
    · have hs := o_if c4 hs
      refine V.aload_n (pc := 33) C dX2_readNumbers_33 0 rfl ?_
      refine V.iload_n (pc := 34) C dX2_readNumbers_34 1 rfl ?_
      refine V.iload (pc := 35) C dX2_readNumbers_35 4 rfl ?_
      refine V.aload_n (pc := 37) C dX2_readNumbers_37 2 rfl ?_
      obtain ⟨v6, h5, ch5, hs⟩ := o_b2 hs
      refine V.callV (pc := 38) C (o := 1) (rm := rmX2_mayBe) (y := yX2_mayBe) (bytes := cX2_mayBe) (maxL := 4) (ret := (some .boolean)) (n := 3) (As := [.int x1, .int x4, .ref 7]) (rest := []) (rv := (some (.int v6))) (h1 := h5) (st0 := [.ref 7, .int x4, .int x1, .ref 1]) (st2 := [.int v6]) (by decide) rfl rfl (ct_X2_mayBe (kL k) ch5) wf_283 wf_285 wf_5 wf_50 wf_286 rfl rfl (by decide +kernel) ⟨by decide, by decide⟩ rfl (Nat.le_of_ble_eq_true rfl) dX2_readNumbers_38 rfl rfl ?_
      refine V.if_ne (pc := 41) C (tgt := 46) dX2_readNumbers_41 (by decide) (fun c7 => ?_) (fun c7 => ?_)
      · have hs := o_el c7 hs
        refine V.aload_n (pc := 46) C dX2_readNumbers_46 0 rfl ?_
        refine V.getf (pc := 47) C (o := 1) (j := 1) (v := .ref 3) (by decide) rfl rfl inX2 (by decide) (by decide) wf_73 rfl dX2_readNumbers_47 ?_
        refine V.iload (pc := 50) C dX2_readNumbers_50 4 rfl ?_
        refine V.aload_n (pc := 52) C dX2_readNumbers_52 0 rfl ?_
        refine V.getf (pc := 53) C (o := 1) (j := 8) (v := .int (h5.1 1 8)) (by decide) rfl rfl inX2 (by decide) (by decide) wf_82 rfl dX2_readNumbers_53 ?_
        obtain ⟨h8, eh8, bh8, hs⟩ := o_st hs
        refine V.iast (pc := 56) C (o := 3) (h2 := h8) (by decide) rfl rfl bh8 eh8 dX2_readNumbers_56 ?_
        refine V.iinc (pc := 57) C (j := 4) (v := (x4 + (1 : Int32))) (lv2 := [(4, .int (x4 + (1 : Int32))), (0, .ref 1), (1, .int x1), (2, .ref 7), (3, .int x3)]) dX2_readNumbers_57 rfl rfl (by decide) rfl ?_
        refine V.goto (pc := 60) C (tgt := 15) dX2_readNumbers_60 (by decide) ?_
        refine V.sub [1, 2, 3, 4, 0] rfl ?_
        exact hK15 _ _ _ _ hs
      · have hs := o_if c7 hs
        refine V.iconst (pc := 44) C (v := (0 : Int32)) dX2_readNumbers_44 (by decide) ?_
        exact V.zret (pc := 45) C T (by decide) hs dX2_readNumbers_45
theorem tl_X2_readNumbers_15 {k : KX} (C : Cx k cX2_readNumbers RX2 5 rmX2_readNumbers) {r : Int32} {hf : Hp} (T : Rx k (some .boolean) (some (.int r)) hf) : ∀ (n : Nat) (x1 : Int32) (x3 : Int32) (x4 : Int32) (h : Hp), X2_readNumbers_l15 n x1 x3 x4 h = some (r, hf) → V k rmX2_readNumbers 5 15 [(0, .ref 1), (1, .int x1), (2, .ref 7), (3, .int x3), (4, .int x4)] [] h := by
  intro n
  induction n with
  | zero => intro x1 x3 x4 h hs; cases hs
  | succ n ih => intro x1 x3 x4 h hs; exact tb_X2_readNumbers_15 C T ih x1 x3 x4 h hs
set_option maxRecDepth 20000 in
theorem tb_X2_readNumbers_11 {k : KX} (C : Cx k cX2_readNumbers RX2 5 rmX2_readNumbers) {r : Int32} {hf : Hp} (T : Rx k (some .boolean) (some (.int r)) hf) (x1 : Int32) (s0 : Int32) (h : Hp) (hs : X2_readNumbers_b11 x1 s0 h = some (r, hf)) : V k rmX2_readNumbers 5 11 [(0, .ref 1), (1, .int x1), (2, .ref 7)] [.int s0] h := by
  unfold X2_readNumbers_b11 at hs
  refine V.istore_n (pc := 11) C (i := 3) (lv2 := [(3, .int s0), (0, .ref 1), (1, .int x1), (2, .ref 7)]) dX2_readNumbers_11 rfl (by decide) rfl ?_
  refine V.iconst (pc := 12) C (v := (0 : Int32)) dX2_readNumbers_12 (by decide) ?_
  refine V.istore (pc := 13) C (i := 4) (lv2 := [(4, .int (0 : Int32)), (3, .int s0), (0, .ref 1), (1, .int x1), (2, .ref 7)]) dX2_readNumbers_13 (by decide) rfl ?_
  refine V.sub [2, 3, 4, 1, 0] rfl ?_
  exact tl_X2_readNumbers_15 C T fu _ _ _ _ hs
set_option maxRecDepth 20000 in
theorem ct_X2_readNumbers (l : Launch) {x1 : Int32} {h hf : Hp} {r : Int32} (hs : X2_readNumbers x1 h = some (r, hf)) : Ct l yX2_readNumbers (Cond.code yX2_readNumbers cX2_readNumbers 5 (some .boolean) :: wsG) rmX2_readNumbers [.ref 1, .int x1, .ref 7] h (some (.int r)) hf := by
  refine Ct.of (by decide +kernel) (fun _ => Nat.le_of_ble_eq_true rfl) (fun k C T => ?_)
  unfold X2_readNumbers at hs
  show V k rmX2_readNumbers 5 0 [(0, .ref 1), (1, .int x1), (2, .ref 7)] [] h
  refine V.iload_n (pc := 0) C dX2_readNumbers_0 1 rfl ?_
  refine V.bipush (pc := 1) C (v := (119 : Int32)) dX2_readNumbers_1 (by decide) ?_
  refine V.icmp_ne (pc := 3) C (tgt := 10) dX2_readNumbers_3 (by decide) (fun c1 => ?_) (fun c1 => ?_)
  · have hs := o_el c1 hs
    refine V.iconst (pc := 10) C (v := (1 : Int32)) dX2_readNumbers_10 (by decide) ?_
    refine V.sub [0, 1, 2] rfl ?_
    exact tb_X2_readNumbers_11 C T _ _ _ hs
  · have hs := o_if c1 hs
    refine V.iconst (pc := 6) C (v := (5 : Int32)) dX2_readNumbers_6 (by decide) ?_
    refine V.goto (pc := 7) C (tgt := 11) dX2_readNumbers_7 (by decide) ?_
    refine V.sub [0, 1, 2] rfl ?_
    exact tb_X2_readNumbers_11 C T _ _ _ hs
abbrev rmX3_addPiece_7 : Room := { frames := 1, cells := 0, slots := 0, locals := 38 }
set_option maxRecDepth 20000 in
theorem ct_X3_addPiece_7 (l : Launch) {h hf : Hp} (hs : X3_addPiece_7 h = some hf) : Ct l yX3_addPiece (Cond.code yX3_addPiece cX3_addPiece 2 none :: wsG) rmX3_addPiece_7 [.ref 7, .ref 3] h none hf := by
  refine Ct.of (by decide +kernel) (fun _ => Nat.le_of_ble_eq_true rfl) (fun k C T => ?_)
  unfold X3_addPiece_7 at hs
  show V k rmX3_addPiece_7 2 0 [(0, .ref 7), (1, .ref 3)] [] h
  refine V.aload_n (pc := 0) C dX3_addPiece_0 0 rfl ?_
  refine V.getf (pc := 1) C (o := 7) (j := 3) (v := .int (h.1 7 3)) (by decide) rfl rfl inX3 (by decide) (by decide) wf_116 rfl dX3_addPiece_1 ?_
  refine V.bipush (pc := 4) C (v := (10 : Int32)) dX3_addPiece_4 (by decide) ?_
  refine V.icmp_ge (pc := 6) C (tgt := 41) dX3_addPiece_6 (by decide) (fun c1 => ?_) (fun c1 => ?_)
  · have hs := o_if c1 hs
    exact V.vret (pc := 41) C T hs dX3_addPiece_41
  · have hs := o_el c1 hs
    refine V.aload_n (pc := 9) C dX3_addPiece_9 1 rfl ?_
    refine V.alen (pc := 10) C (o := 3) (v := (5 : Int32)) (by decide) rfl rfl (by decide) dX3_addPiece_10 ?_
    refine V.iconst (pc := 11) C (v := (5 : Int32)) dX3_addPiece_11 (by decide) ?_
    refine V.icmp_lt (pc := 12) C (tgt := 41) dX3_addPiece_12 (by decide) (fun c2 => ?_) (fun c2 => ?_)
    · have hs := o_if c2 hs
      exact V.vret (pc := 41) C T hs dX3_addPiece_41
    · have hs := o_el c2 hs
      refine V.aload_n (pc := 15) C dX3_addPiece_15 1 rfl ?_
      refine V.iconst (pc := 16) C (v := (0 : Int32)) dX3_addPiece_16 (by decide) ?_
      refine V.aload_n (pc := 17) C dX3_addPiece_17 0 rfl ?_
      refine V.getf (pc := 18) C (o := 7) (j := 1) (v := .ref 9) (by decide) rfl rfl inX3 (by decide) (by decide) wf_110 rfl dX3_addPiece_18 ?_
      refine V.aload_n (pc := 21) C dX3_addPiece_21 0 rfl ?_
      refine V.getf (pc := 22) C (o := 7) (j := 3) (v := .int (h.1 7 3)) (by decide) rfl rfl inX3 (by decide) (by decide) wf_116 rfl dX3_addPiece_22 ?_
      refine V.iconst (pc := 25) C (v := (5 : Int32)) dX3_addPiece_25 (by decide) ?_
      refine V.imul (pc := 26) C dX3_addPiece_26 ?_
      refine V.iconst (pc := 27) C (v := (5 : Int32)) dX3_addPiece_27 (by decide) ?_
      obtain ⟨h3, eh3, bh3, hs⟩ := o_cp hs
      refine V.acopy (pc := 28) C (a := 3) (b := 9) (h2 := h3) (by decide) (by decide) rfl rfl rfl rfl bh3 eh3 ⟨wf_304, wf_306, wf_305, wf_56⟩ (by decide) (Nat.le_of_ble_eq_true rfl) dX3_addPiece_28 ?_
      refine V.aload_n (pc := 31) C dX3_addPiece_31 0 rfl ?_
      refine V.dup (pc := 32) C dX3_addPiece_32 rfl ?_
      refine V.getf (pc := 33) C (o := 7) (j := 3) (v := .int (h3.1 7 3)) (by decide) rfl rfl inX3 (by decide) (by decide) wf_116 rfl dX3_addPiece_33 ?_
      refine V.iconst (pc := 36) C (v := (1 : Int32)) dX3_addPiece_36 (by decide) ?_
      refine V.iadd (pc := 37) C dX3_addPiece_37 ?_
      refine V.put (pc := 38) C (o := 7) (j := 3) (v := ((h3.1 7 3) + (1 : Int32))) (by decide) rfl rfl inX3 (by decide) (by decide) wf_116 tyX3 tyX3_ok nmX3 rfl rfl rfl rfl dX3_addPiece_38 ?_
      exact V.vret (pc := 41) C T hs dX3_addPiece_41
abbrev rmX3_addLine_7 : Room := { frames := 0, cells := 0, slots := 0, locals := 0 }
set_option maxRecDepth 20000 in
theorem ct_X3_addLine_7 (l : Launch) {x1 : Int32} {h hf : Hp} (hs : X3_addLine_7 x1 h = some hf) : Ct l yX3_addLine (Cond.code yX3_addLine cX3_addLine 2 none :: wsG) rmX3_addLine_7 [.ref 7, .int x1] h none hf := by
  refine Ct.of (by decide +kernel) (fun _ => Nat.le_of_ble_eq_true rfl) (fun k C T => ?_)
  unfold X3_addLine_7 at hs
  show V k rmX3_addLine_7 2 0 [(0, .ref 7), (1, .int x1)] [] h
  refine V.aload_n (pc := 0) C dX3_addLine_0 0 rfl ?_
  refine V.getf (pc := 1) C (o := 7) (j := 2) (v := .int (h.1 7 2)) (by decide) rfl rfl inX3 (by decide) (by decide) wf_111 rfl dX3_addLine_1 ?_
  refine V.bipush (pc := 4) C (v := (6 : Int32)) dX3_addLine_4 (by decide) ?_
  refine V.icmp_ge (pc := 6) C (tgt := 29) dX3_addLine_6 (by decide) (fun c1 => ?_) (fun c1 => ?_)
  · have hs := o_if c1 hs
    exact V.vret (pc := 29) C T hs dX3_addLine_29
  · have hs := o_el c1 hs
    refine V.aload_n (pc := 9) C dX3_addLine_9 0 rfl ?_
    refine V.getf (pc := 10) C (o := 7) (j := 0) (v := .ref 8) (by decide) rfl rfl inX3 (by decide) (by decide) wf_109 rfl dX3_addLine_10 ?_
    refine V.aload_n (pc := 13) C dX3_addLine_13 0 rfl ?_
    refine V.getf (pc := 14) C (o := 7) (j := 2) (v := .int (h.1 7 2)) (by decide) rfl rfl inX3 (by decide) (by decide) wf_111 rfl dX3_addLine_14 ?_
    refine V.iload_n (pc := 17) C dX3_addLine_17 1 rfl ?_
    obtain ⟨h2, eh2, bh2, hs⟩ := o_st hs
    refine V.iast (pc := 18) C (o := 8) (h2 := h2) (by decide) rfl rfl bh2 eh2 dX3_addLine_18 ?_
    refine V.aload_n (pc := 19) C dX3_addLine_19 0 rfl ?_
    refine V.dup (pc := 20) C dX3_addLine_20 rfl ?_
    refine V.getf (pc := 21) C (o := 7) (j := 2) (v := .int (h2.1 7 2)) (by decide) rfl rfl inX3 (by decide) (by decide) wf_111 rfl dX3_addLine_21 ?_
    refine V.iconst (pc := 24) C (v := (1 : Int32)) dX3_addLine_24 (by decide) ?_
    refine V.iadd (pc := 25) C dX3_addLine_25 ?_
    refine V.put (pc := 26) C (o := 7) (j := 2) (v := ((h2.1 7 2) + (1 : Int32))) (by decide) rfl rfl inX3 (by decide) (by decide) wf_111 tyX3 tyX3_ok nmX3 rfl rfl rfl rfl dX3_addLine_26 ?_
    exact V.vret (pc := 29) C T hs dX3_addLine_29
abbrev rmX2_tell : Room := { frames := 2, cells := 0, slots := 0, locals := 59 }
set_option maxRecDepth 20000 in
theorem ct_X2_tell (l : Launch) {x1 : Int32} {h hf : Hp} (hs : X2_tell x1 h = some hf) : Ct l yX2_tell (Cond.code yX2_tell cX2_tell 3 none :: wsG) rmX2_tell [.ref 1, .int x1, .ref 7] h none hf := by
  refine Ct.of (by decide +kernel) (fun _ => Nat.le_of_ble_eq_true rfl) (fun k C T => ?_)
  unfold X2_tell at hs
  show V k rmX2_tell 3 0 [(0, .ref 1), (1, .int x1), (2, .ref 7)] [] h
  refine V.iload_n (pc := 0) C dX2_tell_0 1 rfl ?_
  refine V.bipush (pc := 1) C (v := (108 : Int32)) dX2_tell_1 (by decide) ?_
  refine V.icmp_ne (pc := 3) C (tgt := 19) dX2_tell_3 (by decide) (fun c1 => ?_) (fun c1 => ?_)
  · have hs := o_el c1 hs
    refine V.iload_n (pc := 19) C dX2_tell_19 1 rfl ?_
    refine V.bipush (pc := 20) C (v := (119 : Int32)) dX2_tell_20 (by decide) ?_
    refine V.icmp_ne (pc := 22) C (tgt := 36) dX2_tell_22 (by decide) (fun c2 => ?_) (fun c2 => ?_)
    · have hs := o_el c2 hs
      refine V.aload_n (pc := 36) C dX2_tell_36 2 rfl ?_
      refine V.aload_n (pc := 37) C dX2_tell_37 0 rfl ?_
      refine V.getf (pc := 38) C (o := 1) (j := 1) (v := .ref 3) (by decide) rfl rfl inX2 (by decide) (by decide) wf_73 rfl dX2_tell_38 ?_
      refine V.iconst (pc := 41) C (v := (0 : Int32)) dX2_tell_41 (by decide) ?_
      refine V.iald (pc := 42) C (o := 3) (v := (h.1 3 0)) (by decide) rfl rfl (by decide) rfl dX2_tell_42 ?_
      refine V.putN (pc := 43) C (o := 7) (j := 4) (v := (h.1 3 0)) (by decide) rfl rfl inX3 (by decide) (by decide) nw_11 tyX3 tyX3_ok nmX3 rfl rfl rfl rfl dX2_tell_43 ?_
      refine V.aload_n (pc := 46) C dX2_tell_46 0 rfl ?_
      refine V.iconst (pc := 47) C (v := (1 : Int32)) dX2_tell_47 (by decide) ?_
      refine V.put (pc := 48) C (o := 1) (j := 4) (v := (1 : Int32)) (by decide) rfl rfl inX2 (by decide) (by decide) wf_78 tyX2 tyX2_ok nmX2 rfl rfl rfl rfl dX2_tell_48 ?_
      exact V.vret (pc := 51) C T hs dX2_tell_51
    · have hs := o_if c2 hs
      refine V.aload_n (pc := 25) C dX2_tell_25 2 rfl ?_
      refine V.aload_n (pc := 26) C dX2_tell_26 0 rfl ?_
      refine V.getf (pc := 27) C (o := 1) (j := 1) (v := .ref 3) (by decide) rfl rfl inX2 (by decide) (by decide) wf_73 rfl dX2_tell_27 ?_
      obtain ⟨h3, ch3, hs⟩ := o_bind hs
      refine V.callV (pc := 30) C (o := 7) (rm := rmX3_addPiece_7) (y := yX3_addPiece) (bytes := cX3_addPiece) (maxL := 2) (ret := none) (n := 1) (As := [.ref 3]) (rest := []) (rv := none) (h1 := h3) (st0 := [.ref 3, .ref 7]) (st2 := []) (by decide) rfl rfl (ct_X3_addPiece_7 (kL k) ch3) wf_300 wf_301 wf_302 wf_51 wf_303 rfl rfl (by decide +kernel) ⟨by decide, by decide⟩ rfl (Nat.le_of_ble_eq_true rfl) dX2_tell_30 rfl rfl ?_
      refine V.goto (pc := 33) C (tgt := 51) dX2_tell_33 (by decide) ?_
      exact V.vret (pc := 51) C T hs dX2_tell_51
  · have hs := o_if c1 hs
    refine V.aload_n (pc := 6) C dX2_tell_6 2 rfl ?_
    refine V.aload_n (pc := 7) C dX2_tell_7 0 rfl ?_
    refine V.getf (pc := 8) C (o := 1) (j := 1) (v := .ref 3) (by decide) rfl rfl inX2 (by decide) (by decide) wf_73 rfl dX2_tell_8 ?_
    refine V.iconst (pc := 11) C (v := (0 : Int32)) dX2_tell_11 (by decide) ?_
    refine V.iald (pc := 12) C (o := 3) (v := (h.1 3 0)) (by decide) rfl rfl (by decide) rfl dX2_tell_12 ?_
    obtain ⟨h4, ch4, hs⟩ := o_bind hs
    refine V.callV (pc := 13) C (o := 7) (rm := rmX3_addLine_7) (y := yX3_addLine) (bytes := cX3_addLine) (maxL := 2) (ret := none) (n := 1) (As := [.int (h.1 3 0)]) (rest := []) (rv := none) (h1 := h4) (st0 := [.int (h.1 3 0), .ref 7]) (st2 := []) (by decide) rfl rfl (ct_X3_addLine_7 (kL k) ch4) wf_296 wf_297 wf_298 wf_51 wf_299 rfl rfl (by decide +kernel) ⟨by decide, by decide⟩ rfl (Nat.le_of_ble_eq_true rfl) dX2_tell_13 rfl rfl ?_
    refine V.goto (pc := 16) C (tgt := 51) dX2_tell_16 (by decide) ?_
    exact V.vret (pc := 51) C T hs dX2_tell_51
abbrev rmX2_tellTo : Room := { frames := 4, cells := 0, slots := 0, locals := 90 }
set_option maxRecDepth 20000 in
theorem tb_X2_tellTo_19 {k : KX} (C : Cx k cX2_tellTo RX2 3 rmX2_tellTo) {r : Int32} {hf : Hp} (T : Rx k (some .int) (some (.int r)) hf) {K19 : Hp → Option (Int32 × Hp)} (hK19 : ∀ (h : Hp), K19 h = some (r, hf) → V k rmX2_tellTo 3 19 [(0, .ref 1), (1, .ref 7)] [] h) (h : Hp) (hs : X2_tellTo_b19 K19 h = some (r, hf)) : V k rmX2_tellTo 3 19 [(0, .ref 1), (1, .ref 7)] [] h := by
  unfold X2_tellTo_b19 at hs
  refine V.aload_n (pc := 19) C dX2_tellTo_19 0 rfl ?_
  refine V.getf (pc := 20) C (o := 1) (j := 3) (v := .int (h.1 1 3)) (by decide) rfl rfl inX2 (by decide) (by decide) wf_76 rfl dX2_tellTo_20 ?_
  refine V.bipush (pc := 23) C (v := (17 : Int32)) dX2_tellTo_23 (by decide) ?_
  refine V.icmp_gt (pc := 25) C (tgt := 104) dX2_tellTo_25 (by decide) (fun c2 => ?_) (fun c2 => ?_)
  · have hs := o_if c2 hs
    refine V.aload_n (pc := 104) C dX2_tellTo_104 0 rfl ?_
    refine V.getf (pc := 105) C (o := 1) (j := 5) (v := .int (h.1 1 5)) (by decide) rfl rfl inX2 (by decide) (by decide) wf_79 rfl dX2_tellTo_105 ?_
    exact V.iret (pc := 108) C T hs dX2_tellTo_108
  · have hs := o_el c2 hs
    refine V.aload_n (pc := 28) C dX2_tellTo_28 0 rfl ?_
    obtain ⟨h3, ch3, hs⟩ := o_bind hs
    refine V.callV (pc := 29) C (o := 1) (rm := rmX2_step) (y := yX2_step) (bytes := cX2_step) (maxL := 1) (ret := none) (n := 0) (As := []) (rest := []) (rv := none) (h1 := h3) (st0 := [.ref 1]) (st2 := []) (by decide) rfl rfl (ct_X2_step (kL k) ch3) wf_259 wf_261 wf_0 wf_50 wf_262 rfl rfl (by decide +kernel) ⟨by decide, by decide⟩ rfl (Nat.le_of_ble_eq_true rfl) dX2_tellTo_29 rfl rfl ?_
    refine V.aload_n (pc := 32) C dX2_tellTo_32 0 rfl ?_
    refine V.getf (pc := 33) C (o := 1) (j := 7) (v := .int (h3.1 1 7)) (by decide) rfl rfl inX2 (by decide) (by decide) wf_81 rfl dX2_tellTo_33 ?_
    refine V.if_ne (pc := 36) C (tgt := 41) dX2_tellTo_36 (by decide) (fun c4 => ?_) (fun c4 => ?_)
    · have hs := o_el c4 hs
      refine V.aload_n (pc := 41) C dX2_tellTo_41 0 rfl ?_
      refine V.getf (pc := 42) C (o := 1) (j := 8) (v := .int (h3.1 1 8)) (by decide) rfl rfl inX2 (by decide) (by decide) wf_82 rfl dX2_tellTo_42 ?_
      refine V.istore_n (pc := 45) C (i := 2) (lv2 := [(2, .int (h3.1 1 8)), (0, .ref 1), (1, .ref 7)]) dX2_tellTo_45 rfl (by decide) rfl ?_
      refine V.aload_n (pc := 46) C dX2_tellTo_46 1 rfl ?_
      refine V.aload_n (pc := 47) C dX2_tellTo_47 2 rfl ?_
      obtain ⟨v6, h5, ch5, hs⟩ := o_b2 hs
      refine V.callV (pc := 48) C (o := 1) (rm := rmX2_mayBegin) (y := yX2_mayBegin) (bytes := cX2_mayBegin) (maxL := 2) (ret := (some .boolean)) (n := 1) (As := [.ref 7]) (rest := []) (rv := (some (.int v6))) (h1 := h5) (st0 := [.ref 7, .ref 1]) (st2 := [.int v6]) (by decide) rfl rfl (ct_X2_mayBegin (kL k) ch5) wf_275 wf_277 wf_3 wf_50 wf_278 rfl rfl (by decide +kernel) ⟨by decide, by decide⟩ rfl (Nat.le_of_ble_eq_true rfl) dX2_tellTo_48 rfl rfl ?_
      refine V.if_eq (pc := 51) C (tgt := 63) dX2_tellTo_51 (by decide) (fun c7 => ?_) (fun c7 => ?_)
      · have hs := o_if c7 hs
        refine V.aload_n (pc := 63) C dX2_tellTo_63 1 rfl ?_
        refine V.getf (pc := 64) C (o := 1) (j := 5) (v := .int (h5.1 1 5)) (by decide) rfl rfl inX2 (by decide) (by decide) wf_79 rfl dX2_tellTo_64 ?_
        exact V.iret (pc := 67) C T hs dX2_tellTo_67
      · have hs := o_el c7 hs
        refine V.aload_n (pc := 54) C dX2_tellTo_54 1 rfl ?_
        refine V.iload_n (pc := 55) C dX2_tellTo_55 0 rfl ?_
        refine V.aload_n (pc := 56) C dX2_tellTo_56 2 rfl ?_
        obtain ⟨v9, h8, ch8, hs⟩ := o_b2 hs
        refine V.callV (pc := 57) C (o := 1) (rm := rmX2_readNumbers) (y := yX2_readNumbers) (bytes := cX2_readNumbers) (maxL := 5) (ret := (some .boolean)) (n := 2) (As := [.int (h3.1 1 8), .ref 7]) (rest := []) (rv := (some (.int v9))) (h1 := h8) (st0 := [.ref 7, .int (h3.1 1 8), .ref 1]) (st2 := [.int v9]) (by decide) rfl rfl (ct_X2_readNumbers (kL k) ch8) wf_279 wf_281 wf_4 wf_50 wf_282 rfl rfl (by decide +kernel) ⟨by decide, by decide⟩ rfl (Nat.le_of_ble_eq_true rfl) dX2_tellTo_57 rfl rfl ?_
        refine V.if_ne (pc := 60) C (tgt := 68) dX2_tellTo_60 (by decide) (fun c10 => ?_) (fun c10 => ?_)
        · have hs := o_el c10 hs
          refine V.aload_n (pc := 68) C dX2_tellTo_68 1 rfl ?_
          obtain ⟨h11, ch11, hs⟩ := o_bind hs
          refine V.callV (pc := 69) C (o := 1) (rm := rmX2_step) (y := yX2_step) (bytes := cX2_step) (maxL := 1) (ret := none) (n := 0) (As := []) (rest := []) (rv := none) (h1 := h11) (st0 := [.ref 1]) (st2 := []) (by decide) rfl rfl (ct_X2_step (kL k) ch11) wf_259 wf_261 wf_0 wf_50 wf_262 rfl rfl (by decide +kernel) ⟨by decide, by decide⟩ rfl (Nat.le_of_ble_eq_true rfl) dX2_tellTo_69 rfl rfl ?_
          refine V.aload_n (pc := 72) C dX2_tellTo_72 1 rfl ?_
          refine V.getf (pc := 73) C (o := 1) (j := 7) (v := .int (h11.1 1 7)) (by decide) rfl rfl inX2 (by decide) (by decide) wf_81 rfl dX2_tellTo_73 ?_
          refine V.iconst (pc := 76) C (v := (3 : Int32)) dX2_tellTo_76 (by decide) ?_
          refine V.icmp_eq (pc := 77) C (tgt := 85) dX2_tellTo_77 (by decide) (fun c12 => ?_) (fun c12 => ?_)
          · have hs := o_if c12 hs
            refine V.aload_n (pc := 85) C dX2_tellTo_85 1 rfl ?_
            refine V.iload_n (pc := 86) C dX2_tellTo_86 0 rfl ?_
            refine V.aload_n (pc := 87) C dX2_tellTo_87 2 rfl ?_
            obtain ⟨h13, ch13, hs⟩ := o_bind hs
            refine V.callV (pc := 88) C (o := 1) (rm := rmX2_tell) (y := yX2_tell) (bytes := cX2_tell) (maxL := 3) (ret := none) (n := 2) (As := [.int (h3.1 1 8), .ref 7]) (rest := []) (rv := none) (h1 := h13) (st0 := [.ref 7, .int (h3.1 1 8), .ref 1]) (st2 := []) (by decide) rfl rfl (ct_X2_tell (kL k) ch13) wf_292 wf_294 wf_6 wf_50 wf_295 rfl rfl (by decide +kernel) ⟨by decide, by decide⟩ rfl (Nat.le_of_ble_eq_true rfl) dX2_tellTo_88 rfl rfl ?_
            refine V.aload_n (pc := 91) C dX2_tellTo_91 1 rfl ?_
            refine V.dup (pc := 92) C dX2_tellTo_92 rfl ?_
            refine V.getf (pc := 93) C (o := 1) (j := 3) (v := .int (h13.1 1 3)) (by decide) rfl rfl inX2 (by decide) (by decide) wf_76 rfl dX2_tellTo_93 ?_
            refine V.iconst (pc := 96) C (v := (1 : Int32)) dX2_tellTo_96 (by decide) ?_
            refine V.iadd (pc := 97) C dX2_tellTo_97 ?_
            refine V.put (pc := 98) C (o := 1) (j := 3) (v := ((h13.1 1 3) + (1 : Int32))) (by decide) rfl rfl inX2 (by decide) (by decide) wf_76 tyX2 tyX2_ok nmX2 rfl rfl rfl rfl dX2_tellTo_98 ?_
            refine V.goto (pc := 101) C (tgt := 19) dX2_tellTo_101 (by decide) ?_
            refine V.sub [1, 2] rfl ?_
            exact hK19  _ hs
          · have hs := o_el c12 hs
            refine V.aload_n (pc := 80) C dX2_tellTo_80 1 rfl ?_
            refine V.getf (pc := 81) C (o := 1) (j := 5) (v := .int (h11.1 1 5)) (by decide) rfl rfl inX2 (by decide) (by decide) wf_79 rfl dX2_tellTo_81 ?_
            exact V.iret (pc := 84) C T hs dX2_tellTo_84
        · have hs := o_if c10 hs
          refine V.aload_n (pc := 63) C dX2_tellTo_63 1 rfl ?_
          refine V.getf (pc := 64) C (o := 1) (j := 5) (v := .int (h8.1 1 5)) (by decide) rfl rfl inX2 (by decide) (by decide) wf_79 rfl dX2_tellTo_64 ?_
          exact V.iret (pc := 67) C T hs dX2_tellTo_67
    · have hs := o_if c4 hs
      refine V.iconst (pc := 39) C (v := (-1 : Int32)) dX2_tellTo_39 (by decide) ?_
      exact V.iret (pc := 40) C T hs dX2_tellTo_40
theorem tl_X2_tellTo_19 {k : KX} (C : Cx k cX2_tellTo RX2 3 rmX2_tellTo) {r : Int32} {hf : Hp} (T : Rx k (some .int) (some (.int r)) hf) : ∀ (n : Nat) (h : Hp), X2_tellTo_l19 n h = some (r, hf) → V k rmX2_tellTo 3 19 [(0, .ref 1), (1, .ref 7)] [] h := by
  intro n
  induction n with
  | zero => intro h hs; cases hs
  | succ n ih => intro h hs; exact tb_X2_tellTo_19 C T ih h hs
set_option maxRecDepth 20000 in
theorem ct_X2_tellTo (l : Launch) {h hf : Hp} {r : Int32} (hs : X2_tellTo h = some (r, hf)) : Ct l yX2_tellTo (Cond.code yX2_tellTo cX2_tellTo 3 (some .int) :: wsG) rmX2_tellTo [.ref 1, .ref 7] h (some (.int r)) hf := by
  refine Ct.of (by decide +kernel) (fun _ => Nat.le_of_ble_eq_true rfl) (fun k C T => ?_)
  unfold X2_tellTo at hs
  show V k rmX2_tellTo 3 0 [(0, .ref 1), (1, .ref 7)] [] h
  refine V.aload_n (pc := 0) C dX2_tellTo_0 1 rfl ?_
  obtain ⟨h1, ch1, hs⟩ := o_bind hs
  refine V.callV (pc := 1) C (o := 7) (rm := rmX3_erase_7) (y := yX3_erase) (bytes := cX3_erase) (maxL := 1) (ret := none) (n := 0) (As := []) (rest := []) (rv := none) (h1 := h1) (st0 := [.ref 7]) (st2 := []) (by decide) rfl rfl (ct_X3_erase_7 (kL k) ch1) wf_255 wf_256 wf_257 wf_51 wf_258 rfl rfl (by decide +kernel) ⟨by decide, by decide⟩ rfl (Nat.le_of_ble_eq_true rfl) dX2_tellTo_1 rfl rfl ?_
  refine V.aload_n (pc := 4) C dX2_tellTo_4 0 rfl ?_
  refine V.iconst (pc := 5) C (v := (0 : Int32)) dX2_tellTo_5 (by decide) ?_
  refine V.put (pc := 6) C (o := 1) (j := 6) (v := (0 : Int32)) (by decide) rfl rfl inX2 (by decide) (by decide) wf_80 tyX2 tyX2_ok nmX2 rfl rfl rfl rfl dX2_tellTo_6 ?_
  refine V.aload_n (pc := 9) C dX2_tellTo_9 0 rfl ?_
  refine V.iconst (pc := 10) C (v := (0 : Int32)) dX2_tellTo_10 (by decide) ?_
  refine V.put (pc := 11) C (o := 1) (j := 4) (v := (0 : Int32)) (by decide) rfl rfl inX2 (by decide) (by decide) wf_78 tyX2 tyX2_ok nmX2 rfl rfl rfl rfl dX2_tellTo_11 ?_
  refine V.aload_n (pc := 14) C dX2_tellTo_14 0 rfl ?_
  refine V.iconst (pc := 15) C (v := (0 : Int32)) dX2_tellTo_15 (by decide) ?_
  refine V.put (pc := 16) C (o := 1) (j := 3) (v := (0 : Int32)) (by decide) rfl rfl inX2 (by decide) (by decide) wf_76 tyX2 tyX2_ok nmX2 rfl rfl rfl rfl dX2_tellTo_16 ?_
  refine V.sub [0, 1] rfl ?_
  exact tl_X2_tellTo_19 C T fu  _ hs
abbrev rmX3_become : Room := { frames := 1, cells := 0, slots := 0, locals := 38 }
set_option maxRecDepth 20000 in
theorem ct_X3_become (l : Launch) {h hf : Hp} (hs : X3_become h = some hf) : Ct l yX3_become (Cond.code yX3_become cX3_become 2 none :: wsG) rmX3_become [.ref 4, .ref 7] h none hf := by
  refine Ct.of (by decide +kernel) (fun _ => Nat.le_of_ble_eq_true rfl) (fun k C T => ?_)
  unfold X3_become at hs
  show V k rmX3_become 2 0 [(0, .ref 4), (1, .ref 7)] [] h
  refine V.aload_n (pc := 0) C dX3_become_0 1 rfl ?_
  refine V.getf (pc := 1) C (o := 7) (j := 0) (v := .ref 8) (by decide) rfl rfl inX3 (by decide) (by decide) wf_109 rfl dX3_become_1 ?_
  refine V.iconst (pc := 4) C (v := (0 : Int32)) dX3_become_4 (by decide) ?_
  refine V.aload_n (pc := 5) C dX3_become_5 0 rfl ?_
  refine V.getf (pc := 6) C (o := 4) (j := 0) (v := .ref 5) (by decide) rfl rfl inX3 (by decide) (by decide) wf_109 rfl dX3_become_6 ?_
  refine V.iconst (pc := 9) C (v := (0 : Int32)) dX3_become_9 (by decide) ?_
  refine V.aload_n (pc := 10) C dX3_become_10 0 rfl ?_
  refine V.getf (pc := 11) C (o := 4) (j := 0) (v := .ref 5) (by decide) rfl rfl inX3 (by decide) (by decide) wf_109 rfl dX3_become_11 ?_
  refine V.alen (pc := 14) C (o := 5) (v := (6 : Int32)) (by decide) rfl rfl (by decide) dX3_become_14 ?_
  obtain ⟨h1, eh1, bh1, hs⟩ := o_cp hs
  refine V.acopy (pc := 15) C (a := 8) (b := 5) (h2 := h1) (by decide) (by decide) rfl rfl rfl rfl bh1 eh1 ⟨wf_304, wf_306, wf_305, wf_56⟩ (by decide) (Nat.le_of_ble_eq_true rfl) dX3_become_15 ?_
  refine V.aload_n (pc := 18) C dX3_become_18 1 rfl ?_
  refine V.getf (pc := 19) C (o := 7) (j := 1) (v := .ref 9) (by decide) rfl rfl inX3 (by decide) (by decide) wf_110 rfl dX3_become_19 ?_
  refine V.iconst (pc := 22) C (v := (0 : Int32)) dX3_become_22 (by decide) ?_
  refine V.aload_n (pc := 23) C dX3_become_23 0 rfl ?_
  refine V.getf (pc := 24) C (o := 4) (j := 1) (v := .ref 6) (by decide) rfl rfl inX3 (by decide) (by decide) wf_110 rfl dX3_become_24 ?_
  refine V.iconst (pc := 27) C (v := (0 : Int32)) dX3_become_27 (by decide) ?_
  refine V.aload_n (pc := 28) C dX3_become_28 0 rfl ?_
  refine V.getf (pc := 29) C (o := 4) (j := 1) (v := .ref 6) (by decide) rfl rfl inX3 (by decide) (by decide) wf_110 rfl dX3_become_29 ?_
  refine V.alen (pc := 32) C (o := 6) (v := (50 : Int32)) (by decide) rfl rfl (by decide) dX3_become_32 ?_
  obtain ⟨h2, eh2, bh2, hs⟩ := o_cp hs
  refine V.acopy (pc := 33) C (a := 9) (b := 6) (h2 := h2) (by decide) (by decide) rfl rfl rfl rfl bh2 eh2 ⟨wf_304, wf_306, wf_305, wf_56⟩ (by decide) (Nat.le_of_ble_eq_true rfl) dX3_become_33 ?_
  refine V.aload_n (pc := 36) C dX3_become_36 0 rfl ?_
  refine V.aload_n (pc := 37) C dX3_become_37 1 rfl ?_
  refine V.getf (pc := 38) C (o := 7) (j := 2) (v := .int (h2.1 7 2)) (by decide) rfl rfl inX3 (by decide) (by decide) wf_111 rfl dX3_become_38 ?_
  refine V.put (pc := 41) C (o := 4) (j := 2) (v := (h2.1 7 2)) (by decide) rfl rfl inX3 (by decide) (by decide) wf_111 tyX3 tyX3_ok nmX3 rfl rfl rfl rfl dX3_become_41 ?_
  refine V.aload_n (pc := 44) C dX3_become_44 0 rfl ?_
  refine V.aload_n (pc := 45) C dX3_become_45 1 rfl ?_
  refine V.getf (pc := 46) C (o := 7) (j := 3) (v := .int (h2.1 7 3)) (by decide) rfl rfl inX3 (by decide) (by decide) wf_116 rfl dX3_become_46 ?_
  refine V.put (pc := 49) C (o := 4) (j := 3) (v := (h2.1 7 3)) (by decide) rfl rfl inX3 (by decide) (by decide) wf_116 tyX3 tyX3_ok nmX3 rfl rfl rfl rfl dX3_become_49 ?_
  refine V.aload_n (pc := 52) C dX3_become_52 0 rfl ?_
  refine V.aload_n (pc := 53) C dX3_become_53 1 rfl ?_
  refine V.getf (pc := 54) C (o := 7) (j := 4) (v := .int (h2.1 7 4)) (by decide) rfl rfl inX3 (by decide) (by decide) wf_120 rfl dX3_become_54 ?_
  refine V.put (pc := 57) C (o := 4) (j := 4) (v := (h2.1 7 4)) (by decide) rfl rfl inX3 (by decide) (by decide) wf_120 tyX3 tyX3_ok nmX3 rfl rfl rfl rfl dX3_become_57 ?_
  exact V.vret (pc := 60) C T hs dX3_become_60
