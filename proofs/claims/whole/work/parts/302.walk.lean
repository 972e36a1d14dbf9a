abbrev rmX3_sum : Room := { frames := 3, cells := 0, slots := 0, locals := 65 }
set_option maxRecDepth 20000 in
theorem tb_X3_sum_34 {k : KX} (C : Cx k cX3_sum RX3 5 rmX3_sum) {r : Int32} {hf : Hp} (T : Rx k (some .int) (some (.int r)) hf) {K5 : Int32 → Int32 → Int32 → Int32 → Hp → Option (Int32 × Hp)} (hK5 : ∀ (x1 : Int32) (x2 : Int32) (x3 : Int32) (x4 : Int32) (h : Hp), K5 x1 x2 x3 x4 h = some (r, hf) → V k rmX3_sum 5 5 [(0, .ref 4), (1, .int x1), (2, .int x2), (3, .int x3), (4, .int x4)] [] h) (x1 : Int32) (x2 : Int32) (x3 : Int32) (x4 : Int32) (h : Hp) (hs : X3_sum_b34 K5 x1 x2 x3 x4 h = some (r, hf)) : V k rmX3_sum 5 34 [(0, .ref 4), (1, .int x1), (2, .int x2), (3, .int x3), (4, .int x4)] [] h := by
  unfold X3_sum_b34 at hs
  refine V.iinc (pc := 34) C (j := 4) (v := (x4 + (1 : Int32))) (lv2 := [(4, .int (x4 + (1 : Int32))), (0, .ref 4), (1, .int x1), (2, .int x2), (3, .int x3)]) dX3_sum_34 rfl rfl (by decide) rfl ?_
  refine V.goto (pc := 37) C (tgt := 5) dX3_sum_37 (by decide) ?_
  refine V.sub [1, 2, 3, 4, 0] rfl ?_
  exact hK5 _ _ _ _ _ hs
set_option maxRecDepth 20000 in
theorem tb_X3_sum_5 {k : KX} (C : Cx k cX3_sum RX3 5 rmX3_sum) {r : Int32} {hf : Hp} (T : Rx k (some .int) (some (.int r)) hf) {K5 : Int32 → Int32 → Int32 → Int32 → Hp → Option (Int32 × Hp)} (hK5 : ∀ (x1 : Int32) (x2 : Int32) (x3 : Int32) (x4 : Int32) (h : Hp), K5 x1 x2 x3 x4 h = some (r, hf) → V k rmX3_sum 5 5 [(0, .ref 4), (1, .int x1), (2, .int x2), (3, .int x3), (4, .int x4)] [] h) (x1 : Int32) (x2 : Int32) (x3 : Int32) (x4 : Int32) (h : Hp) (hs : X3_sum_b5 K5 x1 x2 x3 x4 h = some (r, hf)) : V k rmX3_sum 5 5 [(0, .ref 4), (1, .int x1), (2, .int x2), (3, .int x3), (4, .int x4)] [] h := by
  unfold X3_sum_b5 at hs
  refine V.iload (pc := 5) C dX3_sum_5 4 rfl ?_
  refine V.aload_n (pc := 7) C dX3_sum_7 0 rfl ?_
  refine V.getf (pc := 8) C (o := 4) (j := 3) (v := .int (h.1 4 3)) (by decide) rfl rfl inX3 (by decide) (by decide) wf_116 rfl dX3_sum_8 ?_
  refine V.icmp_ge (pc := 11) C (tgt := 40) dX3_sum_11 (by decide) (fun c1 => ?_) (fun c1 => ?_)
  · have hs := o_if c1 hs
    refine V.iload_n (pc := 40) C dX3_sum_40 3 rfl ?_
    exact V.iret (pc := 41) C T hs dX3_sum_41
  · have hs := o_el c1 hs
    refine V.iload_n (pc := 14) C dX3_sum_14 1 rfl ?_
    refine V.iload (pc := 15) C dX3_sum_15 4 rfl ?_
    obtain ⟨v3, h2, ch2, hs⟩ := o_b2 hs
    refine V.callN (pc := 17) C (rm := rmX4_bit) (y := yX4_bit) (bytes := cX4_bit) (maxL := 2) (ret := (some .int)) (n := 2) (As := [.int x1, .int x4]) (rest := []) (rv := (some (.int v3))) (h1 := h2) (st0 := [.int x4, .int x1]) (st2 := [.int v3]) (ct_X4_bit (kL k) ch2) wf_341 nw_23 wf_340 wf_49 rfl rfl (by decide +kernel) ⟨by decide, by decide⟩ rfl (Nat.le_of_ble_eq_true rfl) dX3_sum_17 rfl rfl ?_
    refine V.iconst (pc := 20) C (v := (1 : Int32)) dX3_sum_20 (by decide) ?_
    refine V.icmp_ne (pc := 21) C (tgt := 34) dX3_sum_21 (by decide) (fun c4 => ?_) (fun c4 => ?_)
    · have hs := o_el c4 hs
      refine V.sub [0, 1, 2, 3, 4] rfl ?_
      exact tb_X3_sum_34 C T hK5 _ _ _ _ _ hs
    · have hs := o_if c4 hs
      refine V.iload_n (pc := 24) C dX3_sum_24 3 rfl ?_
      refine V.aload_n (pc := 25) C dX3_sum_25 0 rfl ?_
      refine V.iload (pc := 26) C dX3_sum_26 4 rfl ?_
      refine V.iload_n (pc := 28) C dX3_sum_28 2 rfl ?_
      obtain ⟨v6, h5, ch5, hs⟩ := o_b2 hs
      refine V.callV (pc := 29) C (o := 4) (rm := rmX3_of) (y := yX3_of) (bytes := cX3_of) (maxL := 3) (ret := (some .int)) (n := 2) (As := [.int x4, .int x2]) (rest := [.int x3]) (rv := (some (.int v6))) (h1 := h5) (st0 := [.int x2, .int x4, .ref 4, .int x3]) (st2 := [.int v6, .int x3]) (by decide) rfl rfl (ct_X3_of (kL k) ch5) wf_431 wf_335 wf_336 wf_51 wf_337 rfl rfl (by decide +kernel) ⟨by decide, by decide⟩ rfl (Nat.le_of_ble_eq_true rfl) dX3_sum_29 rfl rfl ?_
      refine V.iadd (pc := 32) C dX3_sum_32 ?_
      refine V.istore_n (pc := 33) C (i := 3) (lv2 := [(3, .int (x3 + v6)), (0, .ref 4), (1, .int x1), (2, .int x2), (4, .int x4)]) dX3_sum_33 rfl (by decide) rfl ?_
      refine V.sub [1, 2, 3, 0, 4] rfl ?_
      exact tb_X3_sum_34 C T hK5 _ _ _ _ _ hs
theorem tl_X3_sum_5 {k : KX} (C : Cx k cX3_sum RX3 5 rmX3_sum) {r : Int32} {hf : Hp} (T : Rx k (some .int) (some (.int r)) hf) : ∀ (n : Nat) (x1 : Int32) (x2 : Int32) (x3 : Int32) (x4 : Int32) (h : Hp), X3_sum_l5 n x1 x2 x3 x4 h = some (r, hf) → V k rmX3_sum 5 5 [(0, .ref 4), (1, .int x1), (2, .int x2), (3, .int x3), (4, .int x4)] [] h := by
  intro n
  induction n with
  | zero => intro x1 x2 x3 x4 h hs; cases hs
  | succ n ih => intro x1 x2 x3 x4 h hs; exact tb_X3_sum_5 C T ih x1 x2 x3 x4 h hs
set_option maxRecDepth 20000 in
theorem ct_X3_sum (l : Launch) {x1 : Int32} {x2 : Int32} {h hf : Hp} {r : Int32} (hs : X3_sum x1 x2 h = some (r, hf)) : Ct l yX3_sum (Cond.code yX3_sum cX3_sum 5 (some .int) :: wsG) rmX3_sum [.ref 4, .int x1, .int x2] h (some (.int r)) hf := by
  refine Ct.of (by decide +kernel) (fun _ => Nat.le_of_ble_eq_true rfl) (fun k C T => ?_)
  unfold X3_sum at hs
  show V k rmX3_sum 5 0 [(0, .ref 4), (1, .int x1), (2, .int x2)] [] h
  refine V.iconst (pc := 0) C (v := (0 : Int32)) dX3_sum_0 (by decide) ?_
  refine V.istore_n (pc := 1) C (i := 3) (lv2 := [(3, .int (0 : Int32)), (0, .ref 4), (1, .int x1), (2, .int x2)]) dX3_sum_1 rfl (by decide) rfl ?_
  refine V.iconst (pc := 2) C (v := (0 : Int32)) dX3_sum_2 (by decide) ?_
  refine V.istore (pc := 3) C (i := 4) (lv2 := [(4, .int (0 : Int32)), (3, .int (0 : Int32)), (0, .ref 4), (1, .int x1), (2, .int x2)]) dX3_sum_3 (by decide) rfl ?_
  refine V.sub [2, 3, 4, 1, 0] rfl ?_
  exact tl_X3_sum_5 C T fu _ _ _ _ _ hs
abbrev rmX4_now : Room := { frames := 5, cells := 0, slots := 0, locals := 109 }
set_option maxRecDepth 20000 in
theorem ct_X4_now (l : Launch) {x1 : Int32} {h hf : Hp} {r : Int32} (hs : X4_now x1 h = some (r, hf)) : Ct l yX4_now (Cond.code yX4_now cX4_now 2 (some .int) :: wsG) rmX4_now [.ref 0, .int x1] h (some (.int r)) hf := by
  refine Ct.of (by decide +kernel) (fun _ => Nat.le_of_ble_eq_true rfl) (fun k C T => ?_)
  unfold X4_now at hs
  show V k rmX4_now 2 0 [(0, .ref 0), (1, .int x1)] [] h
  refine V.iload_n (pc := 0) C dX4_now_0 1 rfl ?_
  by_cases c7_0 : x1 = (0 : Int32)
  · have hs := o_if c7_0 hs
    refine V.tin (pc := 1) C (tgt := 44) (off := 43) dX4_now_1 c7_0 (by decide) (by decide) (by decide) (by decide) ?_
    refine V.aload_n (pc := 44) C dX4_now_44 0 rfl ?_
    refine V.getf (pc := 45) C (o := 0) (j := 4) (v := .ref 12) (by decide) rfl rfl inX4 (by decide) (by decide) wf_199 rfl dX4_now_45 ?_
    refine V.getN (pc := 48) C (o := 12) (j := 1) (v := .int (h.1 12 1)) (by decide) rfl rfl inX1 (by decide) (by decide) nw_15 rfl dX4_now_48 ?_
    exact V.iret (pc := 51) C T hs dX4_now_51
  have hs := o_el c7_0 hs
  by_cases c7_1 : x1 = (1 : Int32)
  · have hs := o_if c7_1 hs
    refine V.tin (pc := 1) C (tgt := 52) (off := 51) dX4_now_1 c7_1 (by decide) (by decide) (by decide) (by decide) ?_
    refine V.aload_n (pc := 52) C dX4_now_52 0 rfl ?_
    refine V.getf (pc := 53) C (o := 0) (j := 4) (v := .ref 12) (by decide) rfl rfl inX4 (by decide) (by decide) wf_199 rfl dX4_now_53 ?_
    refine V.getN (pc := 56) C (o := 12) (j := 2) (v := .int (h.1 12 2)) (by decide) rfl rfl inX1 (by decide) (by decide) nw_16 rfl dX4_now_56 ?_
    exact V.iret (pc := 59) C T hs dX4_now_59
  have hs := o_el c7_1 hs
  by_cases c7_2 : x1 = (2 : Int32)
  · have hs := o_if c7_2 hs
    refine V.tin (pc := 1) C (tgt := 60) (off := 59) dX4_now_1 c7_2 (by decide) (by decide) (by decide) (by decide) ?_
    refine V.aload_n (pc := 60) C dX4_now_60 0 rfl ?_
    refine V.getf (pc := 61) C (o := 0) (j := 4) (v := .ref 12) (by decide) rfl rfl inX4 (by decide) (by decide) wf_199 rfl dX4_now_61 ?_
    refine V.getN (pc := 64) C (o := 12) (j := 3) (v := .int (h.1 12 3)) (by decide) rfl rfl inX1 (by decide) (by decide) nw_17 rfl dX4_now_64 ?_
    exact V.iret (pc := 67) C T hs dX4_now_67
  have hs := o_el c7_2 hs
  by_cases c7_3 : x1 = (3 : Int32)
  · have hs := o_if c7_3 hs
    refine V.tin (pc := 1) C (tgt := 68) (off := 67) dX4_now_1 c7_3 (by decide) (by decide) (by decide) (by decide) ?_
    refine V.aload_n (pc := 68) C dX4_now_68 0 rfl ?_
    refine V.getf (pc := 69) C (o := 0) (j := 4) (v := .ref 12) (by decide) rfl rfl inX4 (by decide) (by decide) wf_199 rfl dX4_now_69 ?_
    refine V.getN (pc := 72) C (o := 12) (j := 4) (v := .int (h.1 12 4)) (by decide) rfl rfl inX1 (by decide) (by decide) nw_18 rfl dX4_now_72 ?_
    exact V.iret (pc := 75) C T hs dX4_now_75
  have hs := o_el c7_3 hs
  by_cases c7_4 : x1 = (4 : Int32)
  · have hs := o_if c7_4 hs
    refine V.tin (pc := 1) C (tgt := 76) (off := 75) dX4_now_1 c7_4 (by decide) (by decide) (by decide) (by decide) ?_
    refine V.aload_n (pc := 76) C dX4_now_76 0 rfl ?_
    refine V.getf (pc := 77) C (o := 0) (j := 4) (v := .ref 12) (by decide) rfl rfl inX4 (by decide) (by decide) wf_199 rfl dX4_now_77 ?_
    refine V.getN (pc := 80) C (o := 12) (j := 5) (v := .int (h.1 12 5)) (by decide) rfl rfl inX1 (by decide) (by decide) nw_19 rfl dX4_now_80 ?_
    exact V.iret (pc := 83) C T hs dX4_now_83
  have hs := o_el c7_4 hs
  by_cases c7_5 : x1 = (5 : Int32)
  · have hs := o_if c7_5 hs
    refine V.tin (pc := 1) C (tgt := 84) (off := 83) dX4_now_1 c7_5 (by decide) (by decide) (by decide) (by decide) ?_
    refine V.aload_n (pc := 84) C dX4_now_84 0 rfl ?_
    obtain ⟨v2, h1, ch1, hs⟩ := o_b2 hs
    refine V.callV (pc := 85) C (o := 0) (rm := rmX4_makingSense) (y := yX4_makingSense) (bytes := cX4_makingSense) (maxL := 4) (ret := (some .int)) (n := 0) (As := []) (rest := []) (rv := (some (.int v2))) (h1 := h1) (st0 := [.ref 0]) (st2 := [.int v2]) (by decide) rfl rfl (ct_X4_makingSense (kL k) ch1) wf_423 wf_425 wf_9 wf_49 wf_426 rfl rfl (by decide +kernel) ⟨by decide, by decide⟩ rfl (Nat.le_of_ble_eq_true rfl) dX4_now_85 rfl rfl ?_
    exact V.iret (pc := 88) C T hs dX4_now_88
  have hs := o_el c7_5 hs
  by_cases c7_6 : x1 = (6 : Int32)
  · have hs := o_if c7_6 hs
    refine V.tin (pc := 1) C (tgt := 89) (off := 88) dX4_now_1 c7_6 (by decide) (by decide) (by decide) (by decide) ?_
    refine V.aload_n (pc := 89) C dX4_now_89 0 rfl ?_
    refine V.getf (pc := 90) C (o := 0) (j := 1) (v := .ref 4) (by decide) rfl rfl inX4 (by decide) (by decide) wf_196 rfl dX4_now_90 ?_
    refine V.aload_n (pc := 93) C dX4_now_93 0 rfl ?_
    obtain ⟨v4, h3, ch3, hs⟩ := o_b2 hs
    refine V.callV (pc := 94) C (o := 0) (rm := rmX4_makingSense) (y := yX4_makingSense) (bytes := cX4_makingSense) (maxL := 4) (ret := (some .int)) (n := 0) (As := []) (rest := [.ref 4]) (rv := (some (.int v4))) (h1 := h3) (st0 := [.ref 0, .ref 4]) (st2 := [.int v4, .ref 4]) (by decide) rfl rfl (ct_X4_makingSense (kL k) ch3) wf_423 wf_425 wf_9 wf_49 wf_426 rfl rfl (by decide +kernel) ⟨by decide, by decide⟩ rfl (Nat.le_of_ble_eq_true rfl) dX4_now_94 rfl rfl ?_
    refine V.iconst (pc := 97) C (v := (1 : Int32)) dX4_now_97 (by decide) ?_
    obtain ⟨v6, h5, ch5, hs⟩ := o_b2 hs
    refine V.callV (pc := 98) C (o := 4) (rm := rmX3_sum) (y := yX3_sum) (bytes := cX3_sum) (maxL := 5) (ret := (some .int)) (n := 2) (As := [.int v4, .int (1 : Int32)]) (rest := []) (rv := (some (.int v6))) (h1 := h5) (st0 := [.int (1 : Int32), .int v4, .ref 4]) (st2 := [.int v6]) (by decide) rfl rfl (ct_X3_sum (kL k) ch5) wf_432 wf_433 wf_434 wf_51 wf_435 rfl rfl (by decide +kernel) ⟨by decide, by decide⟩ rfl (Nat.le_of_ble_eq_true rfl) dX4_now_98 rfl rfl ?_
    exact V.iret (pc := 101) C T hs dX4_now_101
  have hs := o_el c7_6 hs
  have ic7_0 : (x1).toInt ≠ 0 := fun z => c7_0 (Int32.toInt_inj.mp z)
  have ic7_1 : (x1).toInt ≠ 1 := fun z => c7_1 (Int32.toInt_inj.mp z)
  have ic7_2 : (x1).toInt ≠ 2 := fun z => c7_2 (Int32.toInt_inj.mp z)
  have ic7_3 : (x1).toInt ≠ 3 := fun z => c7_3 (Int32.toInt_inj.mp z)
  have ic7_4 : (x1).toInt ≠ 4 := fun z => c7_4 (Int32.toInt_inj.mp z)
  have ic7_5 : (x1).toInt ≠ 5 := fun z => c7_5 (Int32.toInt_inj.mp z)
  have ic7_6 : (x1).toInt ≠ 6 := fun z => c7_6 (Int32.toInt_inj.mp z)
  refine V.tout (pc := 1) C (tgt := 102) dX4_now_1 (by omega) (by decide) ?_
  refine V.iconst (pc := 102) C (v := (-1 : Int32)) dX4_now_102 (by decide) ?_
  exact V.iret (pc := 103) C T hs dX4_now_103
abbrev rmX4_isSize : Room := { frames := 1, cells := 0, slots := 0, locals := 22 }
set_option maxRecDepth 20000 in
theorem ct_X4_isSize (l : Launch) {x1 : Int32} {h hf : Hp} {r : Int32} (hs : X4_isSize x1 h = some (r, hf)) : Ct l yX4_isSize (Cond.code yX4_isSize cX4_isSize 2 (some .boolean) :: wsG) rmX4_isSize [.ref 0, .int x1] h (some (.int r)) hf := by
  refine Ct.of (by decide +kernel) (fun _ => Nat.le_of_ble_eq_true rfl) (fun k C T => ?_)
  unfold X4_isSize at hs
  show V k rmX4_isSize 2 0 [(0, .ref 0), (1, .int x1)] [] h
  refine V.iload_n (pc := 0) C dX4_isSize_0 1 rfl ?_
  refine V.aload_n (pc := 1) C dX4_isSize_1 0 rfl ?_
  refine V.getf (pc := 2) C (o := 0) (j := 1) (v := .ref 4) (by decide) rfl rfl inX4 (by decide) (by decide) wf_196 rfl dX4_isSize_2 ?_
  refine V.getN (pc := 5) C (o := 4) (j := 4) (v := .int (h.1 4 4)) (by decide) rfl rfl inX3 (by decide) (by decide) nw_12 rfl dX4_isSize_5 ?_
  refine V.iconst (pc := 8) C (v := (5 : Int32)) dX4_isSize_8 (by decide) ?_
  obtain ⟨v2, h1, ch1, hs⟩ := o_b2 hs
  refine V.callS (pc := 9) C (rm := rmX4_within) (y := yX4_within) (bytes := cX4_within) (maxL := 3) (ret := (some .boolean)) (n := 3) (As := [.int x1, .int (h.1 4 4), .int (5 : Int32)]) (rest := []) (rv := (some (.int v2))) (h1 := h1) (st0 := [.int (5 : Int32), .int (h.1 4 4), .int x1]) (st2 := [.int v2]) (ct_X4_within (kL k) ch1) wf_236 wf_237 wf_49 wf_238 rfl rfl (by decide +kernel) ⟨by decide, by decide⟩ rfl (Nat.le_of_ble_eq_true rfl) dX4_isSize_9 rfl rfl ?_
  obtain ⟨zz, hs⟩ := o_zb hs
  exact V.zret (pc := 12) C T zz hs dX4_isSize_12
abbrev rmX3_all : Room := { frames := 0, cells := 0, slots := 0, locals := 0 }
set_option maxRecDepth 20000 in
theorem ct_X3_all (l : Launch) {h hf : Hp} {r : Int32} (hs : X3_all h = some (r, hf)) : Ct l yX3_all (Cond.code yX3_all cX3_all 1 (some .int) :: wsG) rmX3_all [.ref 4] h (some (.int r)) hf := by
  refine Ct.of (by decide +kernel) (fun _ => Nat.le_of_ble_eq_true rfl) (fun k C T => ?_)
  unfold X3_all at hs
  show V k rmX3_all 1 0 [(0, .ref 4)] [] h
  refine V.iconst (pc := 0) C (v := (1 : Int32)) dX3_all_0 (by decide) ?_
  refine V.aload_n (pc := 1) C dX3_all_1 0 rfl ?_
  refine V.getf (pc := 2) C (o := 4) (j := 3) (v := .int (h.1 4 3)) (by decide) rfl rfl inX3 (by decide) (by decide) wf_116 rfl dX3_all_2 ?_
  refine V.ishl (pc := 5) C dX3_all_5 ?_
  refine V.iconst (pc := 6) C (v := (1 : Int32)) dX3_all_6 (by decide) ?_
  refine V.isub (pc := 7) C dX3_all_7 ?_
  exact V.iret (pc := 8) C T hs dX3_all_8
abbrev rmX0_begin : Room := { frames := 3, cells := 0, slots := 0, locals := 64 }
set_option maxRecDepth 20000 in
theorem ct_X0_begin (l : Launch) {x1 : Int32} {h hf : Hp} (hs : X0_begin x1 h = some hf) : Ct l yX0_begin (Cond.code yX0_begin cX0_begin 2 none :: wsG) rmX0_begin [.ref 10, .int x1] h none hf := by
  refine Ct.of (by decide +kernel) (fun _ => Nat.le_of_ble_eq_true rfl) (fun k C T => ?_)
  unfold X0_begin at hs
  show V k rmX0_begin 2 0 [(0, .ref 10), (1, .int x1)] [] h
  refine V.aload_n (pc := 0) C dX0_begin_0 0 rfl ?_
  refine V.iconst (pc := 1) C (v := (0 : Int32)) dX0_begin_1 (by decide) ?_
  refine V.put (pc := 2) C (o := 10) (j := 2) (v := (0 : Int32)) (by decide) rfl rfl inX0 (by decide) (by decide) wf_142 tyX0 tyX0_ok nmX0 rfl rfl rfl rfl dX0_begin_2 ?_
  refine V.aload_n (pc := 5) C dX0_begin_5 0 rfl ?_
  refine V.aload_n (pc := 6) C dX0_begin_6 0 rfl ?_
  refine V.getf (pc := 7) C (o := 10) (j := 0) (v := .ref 4) (by decide) rfl rfl inX0 (by decide) (by decide) wf_140 rfl dX0_begin_7 ?_
  refine V.iconst (pc := 10) C (v := (0 : Int32)) dX0_begin_10 (by decide) ?_
  obtain ⟨v2, h1, ch1, hs⟩ := o_b2 hs
  refine V.callV (pc := 11) C (o := 4) (rm := rmX3_wideOf) (y := yX3_wideOf) (bytes := cX3_wideOf) (maxL := 2) (ret := (some .int)) (n := 1) (As := [.int (0 : Int32)]) (rest := [.ref 10]) (rv := (some (.int v2))) (h1 := h1) (st0 := [.int (0 : Int32), .ref 4, .ref 10]) (st2 := [.int v2, .ref 10]) (by decide) rfl rfl (ct_X3_wideOf (kL k) ch1) wf_457 wf_316 wf_317 wf_51 wf_318 rfl rfl (by decide +kernel) ⟨by decide, by decide⟩ rfl (Nat.le_of_ble_eq_true rfl) dX0_begin_11 rfl rfl ?_
  refine V.iload_n (pc := 14) C dX0_begin_14 1 rfl ?_
  refine V.isub (pc := 15) C dX0_begin_15 ?_
  refine V.iconst (pc := 16) C (v := (0 : Int32)) dX0_begin_16 (by decide) ?_
  refine V.mmax (pc := 17) C ⟨wf_458, wf_459, wf_55, wf_460⟩ (by decide) (Nat.le_of_ble_eq_true rfl) dX0_begin_17 ?_
  refine V.put (pc := 20) C (o := 10) (j := 3) (v := (if (v2 - x1) < (0 : Int32) then (0 : Int32) else (v2 - x1))) (by decide) rfl rfl inX0 (by decide) (by decide) wf_144 tyX0 tyX0_ok nmX0 rfl rfl rfl rfl dX0_begin_20 ?_
  refine V.aload_n (pc := 23) C dX0_begin_23 0 rfl ?_
  refine V.iconst (pc := 24) C (v := (1 : Int32)) dX0_begin_24 (by decide) ?_
  refine V.put (pc := 25) C (o := 10) (j := 4) (v := (1 : Int32)) (by decide) rfl rfl inX0 (by decide) (by decide) wf_146 tyX0 tyX0_ok nmX0 rfl rfl rfl rfl dX0_begin_25 ?_
  exact V.vret (pc := 28) C T hs dX0_begin_28
abbrev rmX0_put : Room := { frames := 3, cells := 0, slots := 0, locals := 64 }
set_option maxRecDepth 20000 in
theorem tb_X0_put_50 {k : KX} (C : Cx k cX0_put RX0 5 rmX0_put) {r : Int32} {hf : Hp} (T : Rx k (some .boolean) (some (.int r)) hf) {K50 : Int32 → Int32 → Int32 → Hp → Option (Int32 × Hp)} (hK50 : ∀ (x1 : Int32) (x2 : Int32) (x4 : Int32) (h : Hp), K50 x1 x2 x4 h = some (r, hf) → V k rmX0_put 5 50 [(0, .ref 10), (1, .int x1), (2, .int x2), (4, .int x4)] [] h) (x1 : Int32) (x2 : Int32) (x4 : Int32) (h : Hp) (hs : X0_put_b50 K50 x1 x2 x4 h = some (r, hf)) : V k rmX0_put 5 50 [(0, .ref 10), (1, .int x1), (2, .int x2), (4, .int x4)] [] h := by
  unfold X0_put_b50 at hs
  refine V.iload (pc := 50) C dX0_put_50 3 rfl ?_
  refine V.aload_n (pc := 52) C dX0_put_52 0 rfl ?_
  refine V.getf (pc := 53) C (o := 10) (j := 0) (v := .ref 4) (by decide) rfl rfl inX0 (by decide) (by decide) wf_140 rfl dX0_put_53 ?_
  refine V.getN (pc := 56) C (o := 4) (j := 2) (v := .int (h.1 4 2)) (by decide) rfl rfl inX3 (by decide) (by decide) nw_4 rfl dX0_put_56 ?_
  refine V.icmp_ge (pc := 59) C (tgt := 108) dX0_put_59 (by decide) (fun c3 => ?_) (fun c3 => ?_)
  · have hs := o_if c3 hs
    refine V.iconst (pc := 108) C (v := (0 : Int32)) dX0_put_108 (by decide) ?_
    exact V.zret (pc := 109) C T (by decide) hs dX0_put_109
  · have hs := o_el c3 hs
    refine V.iload_n (pc := 62) C dX0_put_62 1 rfl ?_
    refine V.iload_n (pc := 63) C dX0_put_63 2 rfl ?_
    refine V.imul (pc := 64) C dX0_put_64 ?_
    refine V.aload_n (pc := 65) C dX0_put_65 0 rfl ?_
    refine V.getf (pc := 66) C (o := 10) (j := 0) (v := .ref 4) (by decide) rfl rfl inX0 (by decide) (by decide) wf_140 rfl dX0_put_66 ?_
    refine V.iload (pc := 69) C dX0_put_69 3 rfl ?_
    obtain ⟨v5, h4, ch4, hs⟩ := o_b2 hs
    refine V.callV (pc := 71) C (o := 4) (rm := rmX3_wideOf) (y := yX3_wideOf) (bytes := cX3_wideOf) (maxL := 2) (ret := (some .int)) (n := 1) (As := [.int x4]) (rest := [.int (x1 * x2)]) (rv := (some (.int v5))) (h1 := h4) (st0 := [.int x4, .ref 4, .int (x1 * x2)]) (st2 := [.int v5, .int (x1 * x2)]) (by decide) rfl rfl (ct_X3_wideOf (kL k) ch4) wf_457 wf_316 wf_317 wf_51 wf_318 rfl rfl (by decide +kernel) ⟨by decide, by decide⟩ rfl (Nat.le_of_ble_eq_true rfl) dX0_put_71 rfl rfl ?_
    refine V.icmp_gt (pc := 74) C (tgt := 102) dX0_put_74 (by decide) (fun c6 => ?_) (fun c6 => ?_)
    · have hs := o_if c6 hs
      refine V.iinc (pc := 102) C (j := 3) (v := (x4 + (1 : Int32))) (lv2 := [(4, .int (x4 + (1 : Int32))), (0, .ref 10), (1, .int x1), (2, .int x2)]) dX0_put_102 rfl rfl (by decide) rfl ?_
      refine V.goto (pc := 105) C (tgt := 50) dX0_put_105 (by decide) ?_
      refine V.sub [1, 2, 3, 0] rfl ?_
      exact hK50 _ _ _ _ hs
    · have hs := o_el c6 hs
      refine V.aload_n (pc := 77) C dX0_put_77 0 rfl ?_
      refine V.iload (pc := 78) C dX0_put_78 3 rfl ?_
      refine V.put (pc := 80) C (o := 10) (j := 2) (v := x4) (by decide) rfl rfl inX0 (by decide) (by decide) wf_142 tyX0 tyX0_ok nmX0 rfl rfl rfl rfl dX0_put_80 ?_
      refine V.aload_n (pc := 83) C dX0_put_83 0 rfl ?_
      refine V.aload_n (pc := 84) C dX0_put_84 0 rfl ?_
      refine V.getf (pc := 85) C (o := 10) (j := 0) (v := .ref 4) (by decide) rfl rfl inX0 (by decide) (by decide) wf_140 rfl dX0_put_85 ?_
      refine V.iload (pc := 88) C dX0_put_88 3 rfl ?_
      obtain ⟨v8, h7, ch7, hs⟩ := o_b2 hs
      refine V.callV (pc := 90) C (o := 4) (rm := rmX3_wideOf) (y := yX3_wideOf) (bytes := cX3_wideOf) (maxL := 2) (ret := (some .int)) (n := 1) (As := [.int x4]) (rest := [.ref 10]) (rv := (some (.int v8))) (h1 := h7) (st0 := [.int x4, .ref 4, .ref 10]) (st2 := [.int v8, .ref 10]) (by decide) rfl rfl (ct_X3_wideOf (kL k) ch7) wf_457 wf_316 wf_317 wf_51 wf_318 rfl rfl (by decide +kernel) ⟨by decide, by decide⟩ rfl (Nat.le_of_ble_eq_true rfl) dX0_put_90 rfl rfl ?_
      refine V.iload_n (pc := 93) C dX0_put_93 1 rfl ?_
      refine V.iload_n (pc := 94) C dX0_put_94 2 rfl ?_
      refine V.imul (pc := 95) C dX0_put_95 ?_
      refine V.isub (pc := 96) C dX0_put_96 ?_
      refine V.put (pc := 97) C (o := 10) (j := 3) (v := (v8 - (x1 * x2))) (by decide) rfl rfl inX0 (by decide) (by decide) wf_144 tyX0 tyX0_ok nmX0 rfl rfl rfl rfl dX0_put_97 ?_
      refine V.iconst (pc := 100) C (v := (1 : Int32)) dX0_put_100 (by decide) ?_
      exact V.zret (pc := 101) C T (by decide) hs dX0_put_101
theorem tl_X0_put_50 {k : KX} (C : Cx k cX0_put RX0 5 rmX0_put) {r : Int32} {hf : Hp} (T : Rx k (some .boolean) (some (.int r)) hf) : ∀ (n : Nat) (x1 : Int32) (x2 : Int32) (x4 : Int32) (h : Hp), X0_put_l50 n x1 x2 x4 h = some (r, hf) → V k rmX0_put 5 50 [(0, .ref 10), (1, .int x1), (2, .int x2), (4, .int x4)] [] h := by
  intro n
  induction n with
  | zero => intro x1 x2 x4 h hs; cases hs
  | succ n ih => intro x1 x2 x4 h hs; exact tb_X0_put_50 C T ih x1 x2 x4 h hs
set_option maxRecDepth 20000 in
theorem tb_X0_put_14 {k : KX} (C : Cx k cX0_put RX0 5 rmX0_put) {r : Int32} {hf : Hp} (T : Rx k (some .boolean) (some (.int r)) hf) (x1 : Int32) (x2 : Int32) (s0 : Int32) (h : Hp) (hs : X0_put_b14 x1 x2 s0 h = some (r, hf)) : V k rmX0_put 5 14 [(0, .ref 10), (1, .int x1), (2, .int x2)] [.int s0] h := by
  unfold X0_put_b14 at hs
  refine V.iload_n (pc := 14) C dX0_put_14 2 rfl ?_
  refine V.imul (pc := 15) C dX0_put_15 ?_
  refine V.istore_n (pc := 16) C (i := 3) (lv2 := [(3, .int (s0 * x2)), (0, .ref 10), (1, .int x1), (2, .int x2)]) dX0_put_16 rfl (by decide) rfl ?_
  refine V.aload_n (pc := 17) C dX0_put_17 1 rfl ?_
  refine V.iconst (pc := 18) C (v := (0 : Int32)) dX0_put_18 (by decide) ?_
  refine V.put (pc := 19) C (o := 10) (j := 4) (v := (0 : Int32)) (by decide) rfl rfl inX0 (by decide) (by decide) wf_146 tyX0 tyX0_ok nmX0 rfl rfl rfl rfl dX0_put_19 ?_
  refine V.iload_n (pc := 22) C dX0_put_22 0 rfl ?_
  refine V.aload_n (pc := 23) C dX0_put_23 1 rfl ?_
  refine V.getf (pc := 24) C (o := 10) (j := 3) (v := .int (h.1 10 3)) (by decide) rfl rfl inX0 (by decide) (by decide) wf_144 rfl dX0_put_24 ?_
  refine V.icmp_gt (pc := 27) C (tgt := 42) dX0_put_27 (by decide) (fun c2 => ?_) (fun c2 => ?_)
  · have hs := o_if c2 hs
    refine V.aload_n (pc := 42) C dX0_put_42 1 rfl ?_
    refine V.getf (pc := 43) C (o := 10) (j := 2) (v := .int (h.1 10 2)) (by decide) rfl rfl inX0 (by decide) (by decide) wf_142 rfl dX0_put_43 ?_
    refine V.iconst (pc := 46) C (v := (1 : Int32)) dX0_put_46 (by decide) ?_
    refine V.iadd (pc := 47) C dX0_put_47 ?_
    refine V.istore (pc := 48) C (i := 4) (lv2 := [(4, .int ((h.1 10 2) + (1 : Int32))), (3, .int (s0 * x2)), (0, .ref 10), (1, .int x1), (2, .int x2)]) dX0_put_48 (by decide) rfl ?_
    refine V.sub [2, 3, 4, 0] rfl ?_
    exact tl_X0_put_50 C T fu _ _ _ _ hs
  · have hs := o_el c2 hs
    refine V.aload_n (pc := 30) C dX0_put_30 1 rfl ?_
    refine V.dup (pc := 31) C dX0_put_31 rfl ?_
    refine V.getf (pc := 32) C (o := 10) (j := 3) (v := .int (h.1 10 3)) (by decide) rfl rfl inX0 (by decide) (by decide) wf_144 rfl dX0_put_32 ?_
    refine V.iload_n (pc := 35) C dX0_put_35 0 rfl ?_
    refine V.isub (pc := 36) C dX0_put_36 ?_
    refine V.put (pc := 37) C (o := 10) (j := 3) (v := ((h.1 10 3) - (s0 * x2))) (by decide) rfl rfl inX0 (by decide) (by decide) wf_144 tyX0 tyX0_ok nmX0 rfl rfl rfl rfl dX0_put_37 ?_
    refine V.iconst (pc := 40) C (v := (1 : Int32)) dX0_put_40 (by decide) ?_
    exact V.zret (pc := 41) C T (by decide) hs dX0_put_41
set_option maxRecDepth 20000 in
theorem ct_X0_put (l : Launch) {x1 : Int32} {x2 : Int32} {h hf : Hp} {r : Int32} (hs : X0_put x1 x2 h = some (r, hf)) : Ct l yX0_put (Cond.code yX0_put cX0_put 5 (some .boolean) :: wsG) rmX0_put [.ref 10, .int x1, .int x2] h (some (.int r)) hf := by
  refine Ct.of (by decide +kernel) (fun _ => Nat.le_of_ble_eq_true rfl) (fun k C T => ?_)
  unfold X0_put at hs
  show V k rmX0_put 5 0 [(0, .ref 10), (1, .int x1), (2, .int x2)] [] h
  refine V.aload_n (pc := 0) C dX0_put_0 0 rfl ?_
  refine V.getf (pc := 1) C (o := 10) (j := 4) (v := .int (h.1 10 4)) (by decide) rfl rfl inX0 (by decide) (by decide) wf_146 rfl dX0_put_1 ?_
  refine V.if_eq (pc := 4) C (tgt := 11) dX0_put_4 (by decide) (fun c1 => ?_) (fun c1 => ?_)
  · have hs := o_if c1 hs
    refine V.iload_n (pc := 11) C dX0_put_11 1 rfl ?_
    refine V.iconst (pc := 12) C (v := (1 : Int32)) dX0_put_12 (by decide) ?_
    refine V.iadd (pc := 13) C dX0_put_13 ?_
    refine V.sub [0, 1, 2] rfl ?_
    exact tb_X0_put_14 C T _ _ _ _ hs
  · have hs := o_el c1 hs
    refine V.iload_n (pc := 7) C dX0_put_7 1 rfl ?_
    refine V.goto (pc := 8) C (tgt := 14) dX0_put_8 (by decide) ?_
    refine V.sub [0, 1, 2] rfl ?_
    exact tb_X0_put_14 C T _ _ _ _ hs
abbrev rmX0_goesOn : Room := { frames := 4, cells := 0, slots := 0, locals := 88 }
set_option maxRecDepth 20000 in
theorem tb_X0_goesOn_74 {k : KX} (C : Cx k cX0_goesOn RX0 6 rmX0_goesOn) {r : Int32} {hf : Hp} (T : Rx k (some .boolean) (some (.int r)) hf) {K8 : Int32 → Int32 → Int32 → Int32 → Hp → Option (Int32 × Hp)} (hK8 : ∀ (x1 : Int32) (x2 : Int32) (x3 : Int32) (x4 : Int32) (h : Hp), K8 x1 x2 x3 x4 h = some (r, hf) → V k rmX0_goesOn 6 8 [(0, .ref 10), (1, .int x1), (2, .int x2), (3, .int x3), (4, .int x4)] [] h) (x1 : Int32) (x2 : Int32) (x3 : Int32) (x4 : Int32) (h : Hp) (hs : X0_goesOn_b74 K8 x1 x2 x3 x4 h = some (r, hf)) : V k rmX0_goesOn 6 74 [(0, .ref 10), (1, .int x1), (2, .int x2), (3, .int x3), (4, .int x4)] [] h := by
  unfold X0_goesOn_b74 at hs
  refine V.iinc (pc := 74) C (j := 4) (v := (x4 + (1 : Int32))) (lv2 := [(4, .int (x4 + (1 : Int32))), (0, .ref 10), (1, .int x1), (2, .int x2), (3, .int x3)]) dX0_goesOn_74 rfl rfl (by decide) rfl ?_
  refine V.goto (pc := 77) C (tgt := 8) dX0_goesOn_77 (by decide) ?_
  refine V.sub [1, 2, 3, 4, 0] rfl ?_
  exact hK8 _ _ _ _ _ hs
set_option maxRecDepth 20000 in
theorem tb_X0_goesOn_8 {k : KX} (C : Cx k cX0_goesOn RX0 6 rmX0_goesOn) {r : Int32} {hf : Hp} (T : Rx k (some .boolean) (some (.int r)) hf) {K8 : Int32 → Int32 → Int32 → Int32 → Hp → Option (Int32 × Hp)} (hK8 : ∀ (x1 : Int32) (x2 : Int32) (x3 : Int32) (x4 : Int32) (h : Hp), K8 x1 x2 x3 x4 h = some (r, hf) → V k rmX0_goesOn 6 8 [(0, .ref 10), (1, .int x1), (2, .int x2), (3, .int x3), (4, .int x4)] [] h) (x1 : Int32) (x2 : Int32) (x3 : Int32) (x4 : Int32) (h : Hp) (hs : X0_goesOn_b8 K8 x1 x2 x3 x4 h = some (r, hf)) : V k rmX0_goesOn 6 8 [(0, .ref 10), (1, .int x1), (2, .int x2), (3, .int x3), (4, .int x4)] [] h := by
  unfold X0_goesOn_b8 at hs
  refine V.iload (pc := 8) C dX0_goesOn_8 4 rfl ?_
  refine V.aload_n (pc := 10) C dX0_goesOn_10 0 rfl ?_
  refine V.getf (pc := 11) C (o := 10) (j := 0) (v := .ref 4) (by decide) rfl rfl inX0 (by decide) (by decide) wf_140 rfl dX0_goesOn_11 ?_
  refine V.getN (pc := 14) C (o := 4) (j := 3) (v := .int (h.1 4 3)) (by decide) rfl rfl inX3 (by decide) (by decide) nw_8 rfl dX0_goesOn_14 ?_
  refine V.icmp_ge (pc := 17) C (tgt := 80) dX0_goesOn_17 (by decide) (fun c2 => ?_) (fun c2 => ?_)
  · have hs := o_if c2 hs
    refine V.iconst (pc := 80) C (v := (1 : Int32)) dX0_goesOn_80 (by decide) ?_
    exact V.zret (pc := 81) C T (by decide) hs dX0_goesOn_81
  · have hs := o_el c2 hs
    refine V.iload_n (pc := 20) C dX0_goesOn_20 2 rfl ?_
    refine V.iload (pc := 21) C dX0_goesOn_21 4 rfl ?_
    obtain ⟨v4, h3, ch3, hs⟩ := o_b2 hs
    refine V.callN (pc := 23) C (rm := rmX4_bit) (y := yX4_bit) (bytes := cX4_bit) (maxL := 2) (ret := (some .int)) (n := 2) (As := [.int x2, .int x4]) (rest := []) (rv := (some (.int v4))) (h1 := h3) (st0 := [.int x4, .int x2]) (st2 := [.int v4]) (ct_X4_bit (kL k) ch3) wf_341 nw_24 wf_340 wf_49 rfl rfl (by decide +kernel) ⟨by decide, by decide⟩ rfl (Nat.le_of_ble_eq_true rfl) dX0_goesOn_23 rfl rfl ?_
    refine V.iconst (pc := 26) C (v := (1 : Int32)) dX0_goesOn_26 (by decide) ?_
    refine V.icmp_ne (pc := 27) C (tgt := 74) dX0_goesOn_27 (by decide) (fun c5 => ?_) (fun c5 => ?_)
    · have hs := o_el c5 hs
      refine V.sub [0, 1, 2, 3, 4] rfl ?_
      exact tb_X0_goesOn_74 C T hK8 _ _ _ _ _ hs
    · have hs := o_if c5 hs
      refine V.aload_n (pc := 30) C dX0_goesOn_30 0 rfl ?_
      refine V.getf (pc := 31) C (o := 10) (j := 0) (v := .ref 4) (by decide) rfl rfl inX0 (by decide) (by decide) wf_140 rfl dX0_goesOn_31 ?_
      refine V.iload (pc := 34) C dX0_goesOn_34 4 rfl ?_
      refine V.iconst (pc := 36) C (v := (0 : Int32)) dX0_goesOn_36 (by decide) ?_
      obtain ⟨v7, h6, ch6, hs⟩ := o_b2 hs
      refine V.callV (pc := 37) C (o := 4) (rm := rmX3_of) (y := yX3_of) (bytes := cX3_of) (maxL := 3) (ret := (some .int)) (n := 2) (As := [.int x4, .int (0 : Int32)]) (rest := []) (rv := (some (.int v7))) (h1 := h6) (st0 := [.int (0 : Int32), .int x4, .ref 4]) (st2 := [.int v7]) (by decide) rfl rfl (ct_X3_of (kL k) ch6) wf_462 wf_335 wf_336 wf_51 wf_337 rfl rfl (by decide +kernel) ⟨by decide, by decide⟩ rfl (Nat.le_of_ble_eq_true rfl) dX0_goesOn_37 rfl rfl ?_
      refine V.iload_n (pc := 40) C dX0_goesOn_40 3 rfl ?_
      refine V.iload (pc := 41) C dX0_goesOn_41 4 rfl ?_
      obtain ⟨v9, h8, ch8, hs⟩ := o_b2 hs
      refine V.callN (pc := 43) C (rm := rmX4_bit) (y := yX4_bit) (bytes := cX4_bit) (maxL := 2) (ret := (some .int)) (n := 2) (As := [.int x3, .int x4]) (rest := [.int v7]) (rv := (some (.int v9))) (h1 := h8) (st0 := [.int x4, .int x3, .int v7]) (st2 := [.int v9, .int v7]) (ct_X4_bit (kL k) ch8) wf_341 nw_24 wf_340 wf_49 rfl rfl (by decide +kernel) ⟨by decide, by decide⟩ rfl (Nat.le_of_ble_eq_true rfl) dX0_goesOn_43 rfl rfl ?_
      refine V.iconst (pc := 46) C (v := (2 : Int32)) dX0_goesOn_46 (by decide) ?_
      refine V.imul (pc := 47) C dX0_goesOn_47 ?_
      refine V.iadd (pc := 48) C dX0_goesOn_48 ?_
      refine V.istore (pc := 49) C (i := 5) (lv2 := [(5, .int (v7 + (v9 * (2 : Int32)))), (0, .ref 10), (1, .int x1), (2, .int x2), (3, .int x3), (4, .int x4)]) dX0_goesOn_49 (by decide) rfl ?_
      refine V.aload_n (pc := 51) C dX0_goesOn_51 1 rfl ?_
      refine V.iload (pc := 52) C dX0_goesOn_52 0 rfl ?_
      refine V.iload_n (pc := 54) C dX0_goesOn_54 2 rfl ?_
      obtain ⟨v11, h10, ch10, hs⟩ := o_b2 hs
      refine V.callV (pc := 55) C (o := 10) (rm := rmX0_put) (y := yX0_put) (bytes := cX0_put) (maxL := 5) (ret := (some .boolean)) (n := 2) (As := [.int (v7 + (v9 * (2 : Int32))), .int x1]) (rest := []) (rv := (some (.int v11))) (h1 := h10) (st0 := [.int x1, .int (v7 + (v9 * (2 : Int32))), .ref 10]) (st2 := [.int v11]) (by decide) rfl rfl (ct_X0_put (kL k) ch10) wf_463 wf_465 wf_12 wf_52 wf_466 rfl rfl (by decide +kernel) ⟨by decide, by decide⟩ rfl (Nat.le_of_ble_eq_true rfl) dX0_goesOn_55 rfl rfl ?_
      refine V.if_ne (pc := 58) C (tgt := 63) dX0_goesOn_58 (by decide) (fun c12 => ?_) (fun c12 => ?_)
      · have hs := o_el c12 hs
        refine V.aload_n (pc := 63) C dX0_goesOn_63 1 rfl ?_
        refine V.getf (pc := 64) C (o := 10) (j := 1) (v := .ref 11) (by decide) rfl rfl inX0 (by decide) (by decide) wf_141 rfl dX0_goesOn_64 ?_
        refine V.iload (pc := 67) C dX0_goesOn_67 5 rfl ?_
        refine V.aload_n (pc := 69) C dX0_goesOn_69 1 rfl ?_
        refine V.getf (pc := 70) C (o := 10) (j := 2) (v := .int (h10.1 10 2)) (by decide) rfl rfl inX0 (by decide) (by decide) wf_142 rfl dX0_goesOn_70 ?_
        obtain ⟨h13, eh13, bh13, hs⟩ := o_st hs
        refine V.iast (pc := 73) C (o := 11) (h2 := h13) (by decide) rfl rfl bh13 eh13 dX0_goesOn_73 ?_
        refine V.sub [1, 2, 3, 4, 5] rfl ?_
        exact tb_X0_goesOn_74 C T hK8 _ _ _ _ _ hs
      · have hs := o_if c12 hs
        refine V.iconst (pc := 61) C (v := (0 : Int32)) dX0_goesOn_61 (by decide) ?_
        exact V.zret (pc := 62) C T (by decide) hs dX0_goesOn_62
theorem tl_X0_goesOn_8 {k : KX} (C : Cx k cX0_goesOn RX0 6 rmX0_goesOn) {r : Int32} {hf : Hp} (T : Rx k (some .boolean) (some (.int r)) hf) : ∀ (n : Nat) (x1 : Int32) (x2 : Int32) (x3 : Int32) (x4 : Int32) (h : Hp), X0_goesOn_l8 n x1 x2 x3 x4 h = some (r, hf) → V k rmX0_goesOn 6 8 [(0, .ref 10), (1, .int x1), (2, .int x2), (3, .int x3), (4, .int x4)] [] h := by
  intro n
  induction n with
  | zero => intro x1 x2 x3 x4 h hs; cases hs
  | succ n ih => intro x1 x2 x3 x4 h hs; exact tb_X0_goesOn_8 C T ih x1 x2 x3 x4 h hs
set_option maxRecDepth 20000 in
theorem ct_X0_goesOn (l : Launch) {x1 : Int32} {x2 : Int32} {x3 : Int32} {h hf : Hp} {r : Int32} (hs : X0_goesOn x1 x2 x3 h = some (r, hf)) : Ct l yX0_goesOn (Cond.code yX0_goesOn cX0_goesOn 6 (some .boolean) :: wsG) rmX0_goesOn [.ref 10, .int x1, .int x2, .int x3] h (some (.int r)) hf := by
  refine Ct.of (by decide +kernel) (fun _ => Nat.le_of_ble_eq_true rfl) (fun k C T => ?_)
  unfold X0_goesOn at hs
  show V k rmX0_goesOn 6 0 [(0, .ref 10), (1, .int x1), (2, .int x2), (3, .int x3)] [] h
  refine V.aload_n (pc := 0) C dX0_goesOn_0 0 rfl ?_
  refine V.iconst (pc := 1) C (v := (0 : Int32)) dX0_goesOn_1 (by decide) ?_
  obtain ⟨h1, ch1, hs⟩ := o_bind hs
  refine V.callV (pc := 2) C (o := 10) (rm := rmX0_begin) (y := yX0_begin) (bytes := cX0_begin) (maxL := 2) (ret := none) (n := 1) (As := [.int (0 : Int32)]) (rest := []) (rv := none) (h1 := h1) (st0 := [.int (0 : Int32), .ref 10]) (st2 := []) (by decide) rfl rfl (ct_X0_begin (kL k) ch1) wf_453 wf_455 wf_11 wf_52 wf_456 rfl rfl (by decide +kernel) ⟨by decide, by decide⟩ rfl (Nat.le_of_ble_eq_true rfl) dX0_goesOn_2 rfl rfl ?_
  refine V.iconst (pc := 5) C (v := (0 : Int32)) dX0_goesOn_5 (by decide) ?_
  refine V.istore (pc := 6) C (i := 4) (lv2 := [(4, .int (0 : Int32)), (0, .ref 10), (1, .int x1), (2, .int x2), (3, .int x3)]) dX0_goesOn_6 (by decide) rfl ?_
  refine V.sub [1, 2, 3, 4, 0] rfl ?_
  exact tl_X0_goesOn_8 C T fu _ _ _ _ _ hs
abbrev rmX4_fill : Room := { frames := 5, cells := 0, slots := 0, locals := 113 }
set_option maxRecDepth 20000 in
theorem ct_X4_fill (l : Launch) {x1 : Int32} {x2 : Int32} {x3 : Int32} {h hf : Hp} {r : Int32} (hs : X4_fill x1 x2 x3 h = some (r, hf)) : Ct l yX4_fill (Cond.code yX4_fill cX4_fill 4 (some .int) :: wsG) rmX4_fill [.ref 0, .int x1, .int x2, .int x3] h (some (.int r)) hf := by
  refine Ct.of (by decide +kernel) (fun _ => Nat.le_of_ble_eq_true rfl) (fun k C T => ?_)
  unfold X4_fill at hs
  show V k rmX4_fill 4 0 [(0, .ref 0), (1, .int x1), (2, .int x2), (3, .int x3)] [] h
  refine V.aload_n (pc := 0) C dX4_fill_0 0 rfl ?_
  refine V.iload_n (pc := 1) C dX4_fill_1 1 rfl ?_
  obtain ⟨v2, h1, ch1, hs⟩ := o_b2 hs
  refine V.callV (pc := 2) C (o := 0) (rm := rmX4_isSize) (y := yX4_isSize) (bytes := cX4_isSize) (maxL := 2) (ret := (some .boolean)) (n := 1) (As := [.int x1]) (rest := []) (rv := (some (.int v2))) (h1 := h1) (st0 := [.int x1, .ref 0]) (st2 := [.int v2]) (by decide) rfl rfl (ct_X4_isSize (kL k) ch1) wf_441 wf_443 wf_10 wf_49 wf_444 rfl rfl (by decide +kernel) ⟨by decide, by decide⟩ rfl (Nat.le_of_ble_eq_true rfl) dX4_fill_2 rfl rfl ?_
  refine V.if_eq (pc := 5) C (tgt := 32) dX4_fill_5 (by decide) (fun c3 => ?_) (fun c3 => ?_)
  · have hs := o_if c3 hs
    refine V.iconst (pc := 32) C (v := (-1 : Int32)) dX4_fill_32 (by decide) ?_
    exact V.iret (pc := 33) C T hs dX4_fill_33
  · have hs := o_el c3 hs
    refine V.iload_n (pc := 8) C dX4_fill_8 2 rfl ?_
    refine V.iconst (pc := 9) C (v := (0 : Int32)) dX4_fill_9 (by decide) ?_
    refine V.aload_n (pc := 10) C dX4_fill_10 0 rfl ?_
    refine V.getf (pc := 11) C (o := 0) (j := 1) (v := .ref 4) (by decide) rfl rfl inX4 (by decide) (by decide) wf_196 rfl dX4_fill_11 ?_
    obtain ⟨v5, h4, ch4, hs⟩ := o_b2 hs
    refine V.callV (pc := 14) C (o := 4) (rm := rmX3_all) (y := yX3_all) (bytes := cX3_all) (maxL := 1) (ret := (some .int)) (n := 0) (As := []) (rest := [.int (0 : Int32), .int x2]) (rv := (some (.int v5))) (h1 := h4) (st0 := [.ref 4, .int (0 : Int32), .int x2]) (st2 := [.int v5, .int (0 : Int32), .int x2]) (by decide) rfl rfl (ct_X3_all (kL k) ch4) wf_445 wf_446 wf_447 wf_51 wf_448 rfl rfl (by decide +kernel) ⟨by decide, by decide⟩ rfl (Nat.le_of_ble_eq_true rfl) dX4_fill_14 rfl rfl ?_
    obtain ⟨v7, h6, ch6, hs⟩ := o_b2 hs
    refine V.callS (pc := 17) C (rm := rmX4_within) (y := yX4_within) (bytes := cX4_within) (maxL := 3) (ret := (some .boolean)) (n := 3) (As := [.int x2, .int (0 : Int32), .int v5]) (rest := []) (rv := (some (.int v7))) (h1 := h6) (st0 := [.int v5, .int (0 : Int32), .int x2]) (st2 := [.int v7]) (ct_X4_within (kL k) ch6) wf_236 wf_237 wf_49 wf_238 rfl rfl (by decide +kernel) ⟨by decide, by decide⟩ rfl (Nat.le_of_ble_eq_true rfl) dX4_fill_17 rfl rfl ?_
    refine V.if_eq (pc := 20) C (tgt := 32) dX4_fill_20 (by decide) (fun c8 => ?_) (fun c8 => ?_)
    · have hs := o_if c8 hs
      refine V.iconst (pc := 32) C (v := (-1 : Int32)) dX4_fill_32 (by decide) ?_
      exact V.iret (pc := 33) C T hs dX4_fill_33
    · have hs := o_el c8 hs
      refine V.iload_n (pc := 23) C dX4_fill_23 3 rfl ?_
      refine V.iconst (pc := 24) C (v := (0 : Int32)) dX4_fill_24 (by decide) ?_
      refine V.iconst (pc := 25) C (v := (1 : Int32)) dX4_fill_25 (by decide) ?_
      obtain ⟨v10, h9, ch9, hs⟩ := o_b2 hs
      refine V.callS (pc := 26) C (rm := rmX4_within) (y := yX4_within) (bytes := cX4_within) (maxL := 3) (ret := (some .boolean)) (n := 3) (As := [.int x3, .int (0 : Int32), .int (1 : Int32)]) (rest := []) (rv := (some (.int v10))) (h1 := h9) (st0 := [.int (1 : Int32), .int (0 : Int32), .int x3]) (st2 := [.int v10]) (ct_X4_within (kL k) ch9) wf_236 wf_237 wf_49 wf_238 rfl rfl (by decide +kernel) ⟨by decide, by decide⟩ rfl (Nat.le_of_ble_eq_true rfl) dX4_fill_26 rfl rfl ?_
      refine V.if_ne (pc := 29) C (tgt := 34) dX4_fill_29 (by decide) (fun c11 => ?_) (fun c11 => ?_)
      · have hs := o_el c11 hs
        refine V.iload_n (pc := 34) C dX4_fill_34 2 rfl ?_
        refine V.if_eq (pc := 35) C (tgt := 51) dX4_fill_35 (by decide) (fun c12 => ?_) (fun c12 => ?_)
        · have hs := o_if c12 hs
          refine V.bipush (pc := 51) C (v := (-9 : Int32)) dX4_fill_51 (by decide) ?_
          exact V.iret (pc := 53) C T hs dX4_fill_53
        · have hs := o_el c12 hs
          refine V.aload_n (pc := 38) C dX4_fill_38 0 rfl ?_
          refine V.getf (pc := 39) C (o := 0) (j := 3) (v := .ref 10) (by decide) rfl rfl inX4 (by decide) (by decide) wf_198 rfl dX4_fill_39 ?_
          refine V.iload_n (pc := 42) C dX4_fill_42 1 rfl ?_
          refine V.iload_n (pc := 43) C dX4_fill_43 2 rfl ?_
          refine V.iconst (pc := 44) C (v := (0 : Int32)) dX4_fill_44 (by decide) ?_
          obtain ⟨v14, h13, ch13, hs⟩ := o_b2 hs
          refine V.callV (pc := 45) C (o := 10) (rm := rmX0_goesOn) (y := yX0_goesOn) (bytes := cX0_goesOn) (maxL := 6) (ret := (some .boolean)) (n := 3) (As := [.int x1, .int x2, .int (0 : Int32)]) (rest := []) (rv := (some (.int v14))) (h1 := h13) (st0 := [.int (0 : Int32), .int x2, .int x1, .ref 10]) (st2 := [.int v14]) (by decide) rfl rfl (ct_X0_goesOn (kL k) ch13) wf_449 wf_450 wf_451 wf_52 wf_452 rfl rfl (by decide +kernel) ⟨by decide, by decide⟩ rfl (Nat.le_of_ble_eq_true rfl) dX4_fill_45 rfl rfl ?_
          refine V.if_ne (pc := 48) C (tgt := 54) dX4_fill_48 (by decide) (fun c15 => ?_) (fun c15 => ?_)
          · have hs := o_el c15 hs
            refine V.iload_n (pc := 54) C dX4_fill_54 3 rfl ?_
            refine V.if_ne (pc := 55) C (tgt := 68) dX4_fill_55 (by decide) (fun c16 => ?_) (fun c16 => ?_)
            · have hs := o_el c16 hs
              refine V.aload_n (pc := 68) C dX4_fill_68 0 rfl ?_
              refine V.getf (pc := 69) C (o := 0) (j := 3) (v := .ref 10) (by decide) rfl rfl inX4 (by decide) (by decide) wf_198 rfl dX4_fill_69 ?_
              refine V.getN (pc := 72) C (o := 10) (j := 3) (v := .int (h13.1 10 3)) (by decide) rfl rfl inX0 (by decide) (by decide) nw_14 rfl dX4_fill_72 ?_
              exact V.iret (pc := 75) C T hs dX4_fill_75
            · have hs := o_if c16 hs
              refine V.aload_n (pc := 58) C dX4_fill_58 0 rfl ?_
              refine V.getf (pc := 59) C (o := 0) (j := 3) (v := .ref 10) (by decide) rfl rfl inX4 (by decide) (by decide) wf_198 rfl dX4_fill_59 ?_
              refine V.getN (pc := 62) C (o := 10) (j := 2) (v := .int (h13.1 10 2)) (by decide) rfl rfl inX0 (by decide) (by decide) nw_13 rfl dX4_fill_62 ?_
              refine V.goto (pc := 65) C (tgt := 75) dX4_fill_65 (by decide) ?_
              exact V.iret (pc := 75) C T hs dX4_fill_75
          · have hs := o_if c15 hs
            refine V.bipush (pc := 51) C (v := (-9 : Int32)) dX4_fill_51 (by decide) ?_
            exact V.iret (pc := 53) C T hs dX4_fill_53
      · have hs := o_if c11 hs
        refine V.iconst (pc := 32) C (v := (-1 : Int32)) dX4_fill_32 (by decide) ?_
        exact V.iret (pc := 33) C T hs dX4_fill_33
abbrev rmX4_greatest : Room := { frames := 5, cells := 0, slots := 0, locals := 113 }
set_option maxRecDepth 20000 in
theorem tb_X4_greatest_2 {k : KX} (C : Cx k cX4_greatest RX4 2 rmX4_greatest) {r : Int32} {hf : Hp} (T : Rx k (some .int) (some (.int r)) hf) {K2 : Int32 → Hp → Option (Int32 × Hp)} (hK2 : ∀ (x1 : Int32) (h : Hp), K2 x1 h = some (r, hf) → V k rmX4_greatest 2 2 [(0, .ref 0), (1, .int x1)] [] h) (x1 : Int32) (h : Hp) (hs : X4_greatest_b2 K2 x1 h = some (r, hf)) : V k rmX4_greatest 2 2 [(0, .ref 0), (1, .int x1)] [] h := by
  unfold X4_greatest_b2 at hs
  refine V.iload_n (pc := 2) C dX4_greatest_2 1 rfl ?_
  refine V.aload_n (pc := 3) C dX4_greatest_3 0 rfl ?_
  refine V.getf (pc := 4) C (o := 0) (j := 1) (v := .ref 4) (by decide) rfl rfl inX4 (by decide) (by decide) wf_196 rfl dX4_greatest_4 ?_
  refine V.getN (pc := 7) C (o := 4) (j := 4) (v := .int (h.1 4 4)) (by decide) rfl rfl inX3 (by decide) (by decide) nw_12 rfl dX4_greatest_7 ?_
  refine V.icmp_lt (pc := 10) C (tgt := 40) dX4_greatest_10 (by decide) (fun c1 => ?_) (fun c1 => ?_)
  · have hs := o_if c1 hs
    refine V.bipush (pc := 40) C (v := (-9 : Int32)) dX4_greatest_40 (by decide) ?_
    exact V.iret (pc := 42) C T hs dX4_greatest_42
  · have hs := o_el c1 hs
    refine V.aload_n (pc := 13) C dX4_greatest_13 0 rfl ?_
    refine V.getf (pc := 14) C (o := 0) (j := 3) (v := .ref 10) (by decide) rfl rfl inX4 (by decide) (by decide) wf_198 rfl dX4_greatest_14 ?_
    refine V.iload_n (pc := 17) C dX4_greatest_17 1 rfl ?_
    refine V.aload_n (pc := 18) C dX4_greatest_18 0 rfl ?_
    refine V.getf (pc := 19) C (o := 0) (j := 1) (v := .ref 4) (by decide) rfl rfl inX4 (by decide) (by decide) wf_196 rfl dX4_greatest_19 ?_
    obtain ⟨v3, h2, ch2, hs⟩ := o_b2 hs
    refine V.callV (pc := 22) C (o := 4) (rm := rmX3_all) (y := yX3_all) (bytes := cX3_all) (maxL := 1) (ret := (some .int)) (n := 0) (As := []) (rest := [.int x1, .ref 10]) (rv := (some (.int v3))) (h1 := h2) (st0 := [.ref 4, .int x1, .ref 10]) (st2 := [.int v3, .int x1, .ref 10]) (by decide) rfl rfl (ct_X3_all (kL k) ch2) wf_445 wf_446 wf_447 wf_51 wf_448 rfl rfl (by decide +kernel) ⟨by decide, by decide⟩ rfl (Nat.le_of_ble_eq_true rfl) dX4_greatest_22 rfl rfl ?_
    refine V.iconst (pc := 25) C (v := (0 : Int32)) dX4_greatest_25 (by decide) ?_
    obtain ⟨v5, h4, ch4, hs⟩ := o_b2 hs
    refine V.callV (pc := 26) C (o := 10) (rm := rmX0_goesOn) (y := yX0_goesOn) (bytes := cX0_goesOn) (maxL := 6) (ret := (some .boolean)) (n := 3) (As := [.int x1, .int v3, .int (0 : Int32)]) (rest := []) (rv := (some (.int v5))) (h1 := h4) (st0 := [.int (0 : Int32), .int v3, .int x1, .ref 10]) (st2 := [.int v5]) (by decide) rfl rfl (ct_X0_goesOn (kL k) ch4) wf_449 wf_450 wf_451 wf_52 wf_452 rfl rfl (by decide +kernel) ⟨by decide, by decide⟩ rfl (Nat.le_of_ble_eq_true rfl) dX4_greatest_26 rfl rfl ?_
    refine V.if_eq (pc := 29) C (tgt := 34) dX4_greatest_29 (by decide) (fun c6 => ?_) (fun c6 => ?_)
    · have hs := o_if c6 hs
      refine V.iinc (pc := 34) C (j := 1) (v := (x1 + (-1 : Int32))) (lv2 := [(1, .int (x1 + (-1 : Int32))), (0, .ref 0)]) dX4_greatest_34 rfl rfl (by decide) rfl ?_
      refine V.goto (pc := 37) C (tgt := 2) dX4_greatest_37 (by decide) ?_
      refine V.sub [1, 0] rfl ?_
      exact hK2 _ _ hs
    · have hs := o_el c6 hs
      refine V.iload_n (pc := 32) C dX4_greatest_32 1 rfl ?_
      exact V.iret (pc := 33) C T hs dX4_greatest_33
theorem tl_X4_greatest_2 {k : KX} (C : Cx k cX4_greatest RX4 2 rmX4_greatest) {r : Int32} {hf : Hp} (T : Rx k (some .int) (some (.int r)) hf) : ∀ (n : Nat) (x1 : Int32) (h : Hp), X4_greatest_l2 n x1 h = some (r, hf) → V k rmX4_greatest 2 2 [(0, .ref 0), (1, .int x1)] [] h := by
  intro n
  induction n with
  | zero => intro x1 h hs; cases hs
  | succ n ih => intro x1 h hs; exact tb_X4_greatest_2 C T ih x1 h hs
set_option maxRecDepth 20000 in
theorem ct_X4_greatest (l : Launch) {h hf : Hp} {r : Int32} (hs : X4_greatest h = some (r, hf)) : Ct l yX4_greatest (Cond.code yX4_greatest cX4_greatest 2 (some .int) :: wsG) rmX4_greatest [.ref 0] h (some (.int r)) hf := by
  refine Ct.of (by decide +kernel) (fun _ => Nat.le_of_ble_eq_true rfl) (fun k C T => ?_)
  unfold X4_greatest at hs
  show V k rmX4_greatest 2 0 [(0, .ref 0)] [] h
  refine V.iconst (pc := 0) C (v := (5 : Int32)) dX4_greatest_0 (by decide) ?_
  refine V.istore_n (pc := 1) C (i := 1) (lv2 := [(1, .int (5 : Int32)), (0, .ref 0)]) dX4_greatest_1 rfl (by decide) rfl ?_
  refine V.sub [1, 0] rfl ?_
  exact tl_X4_greatest_2 C T fu _ _ hs
abbrev rmX4_even : Room := { frames := 6, cells := 0, slots := 0, locals := 134 }
set_option maxRecDepth 20000 in
theorem tb_X4_even_18 {k : KX} (C : Cx k cX4_even RX4 3 rmX4_even) {r : Int32} {hf : Hp} (T : Rx k (some .int) (some (.int r)) hf) (x1 : Int32) (h : Hp) (hs : X4_even_b18 x1 h = some (r, hf)) : V k rmX4_even 3 18 [(0, .ref 0), (1, .int x1)] [] h := by
  unfold X4_even_b18 at hs
  refine V.aload_n (pc := 18) C dX4_even_18 0 rfl ?_
  obtain ⟨v6, h5, ch5, hs⟩ := o_b2 hs
  refine V.callV (pc := 19) C (o := 0) (rm := rmX4_greatest) (y := yX4_greatest) (bytes := cX4_greatest) (maxL := 2) (ret := (some .int)) (n := 0) (As := []) (rest := []) (rv := (some (.int v6))) (h1 := h5) (st0 := [.ref 0]) (st2 := [.int v6]) (by decide) rfl rfl (ct_X4_greatest (kL k) ch5) wf_475 wf_468 wf_469 wf_49 wf_470 rfl rfl (by decide +kernel) ⟨by decide, by decide⟩ rfl (Nat.le_of_ble_eq_true rfl) dX4_even_19 rfl rfl ?_
  refine V.istore_n (pc := 22) C (i := 2) (lv2 := [(2, .int v6), (0, .ref 0), (1, .int x1)]) dX4_even_22 rfl (by decide) rfl ?_
  refine V.iload_n (pc := 23) C dX4_even_23 2 rfl ?_
  refine V.iconst (pc := 24) C (v := (-1 : Int32)) dX4_even_24 (by decide) ?_
  refine V.icmp_ne (pc := 25) C (tgt := 38) dX4_even_25 (by decide) (fun c7 => ?_) (fun c7 => ?_)
  · have hs := o_el c7 hs
    refine V.iload_n (pc := 38) C dX4_even_38 0 rfl ?_
    exact V.iret (pc := 39) C T hs dX4_even_39
  · have hs := o_if c7 hs
    refine V.iload_n (pc := 28) C dX4_even_28 0 rfl ?_
    refine V.bipush (pc := 29) C (v := (-9 : Int32)) dX4_even_29 (by decide) ?_
    refine V.icmp_eq (pc := 31) C (tgt := 38) dX4_even_31 (by decide) (fun c8 => ?_) (fun c8 => ?_)
    · have hs := o_if c8 hs
      refine V.iload_n (pc := 38) C dX4_even_38 0 rfl ?_
      exact V.iret (pc := 39) C T hs dX4_even_39
    · have hs := o_el c8 hs
      refine V.iconst (pc := 34) C (v := (0 : Int32)) dX4_even_34 (by decide) ?_
      refine V.goto (pc := 35) C (tgt := 39) dX4_even_35 (by decide) ?_
      exact V.iret (pc := 39) C T hs dX4_even_39
set_option maxRecDepth 20000 in
theorem ct_X4_even (l : Launch) {x1 : Int32} {h hf : Hp} {r : Int32} (hs : X4_even x1 h = some (r, hf)) : Ct l yX4_even (Cond.code yX4_even cX4_even 3 (some .int) :: wsG) rmX4_even [.ref 0, .int x1] h (some (.int r)) hf := by
  refine Ct.of (by decide +kernel) (fun _ => Nat.le_of_ble_eq_true rfl) (fun k C T => ?_)
  unfold X4_even at hs
  show V k rmX4_even 3 0 [(0, .ref 0), (1, .int x1)] [] h
  refine V.iload_n (pc := 0) C dX4_even_0 1 rfl ?_
  refine V.iconst (pc := 1) C (v := (-1 : Int32)) dX4_even_1 (by decide) ?_
  refine V.icmp_eq (pc := 2) C (tgt := 18) dX4_even_2 (by decide) (fun c1 => ?_) (fun c1 => ?_)
  · have hs := o_if c1 hs
    refine V.sub [0, 1] rfl ?_
    exact tb_X4_even_18 C T _ _ hs
  · have hs := o_el c1 hs
    refine V.aload_n (pc := 5) C dX4_even_5 0 rfl ?_
    refine V.getf (pc := 6) C (o := 0) (j := 1) (v := .ref 4) (by decide) rfl rfl inX4 (by decide) (by decide) wf_196 rfl dX4_even_6 ?_
    refine V.iload_n (pc := 9) C dX4_even_9 1 rfl ?_
    obtain ⟨v3, h2, ch2, hs⟩ := o_b2 hs
    refine V.callV (pc := 10) C (o := 4) (rm := rmX3_hasLine) (y := yX3_hasLine) (bytes := cX3_hasLine) (maxL := 2) (ret := (some .boolean)) (n := 1) (As := [.int x1]) (rest := []) (rv := (some (.int v3))) (h1 := h2) (st0 := [.int x1, .ref 4]) (st2 := [.int v3]) (by decide) rfl rfl (ct_X3_hasLine (kL k) ch2) wf_327 wf_320 wf_321 wf_51 wf_322 rfl rfl (by decide +kernel) ⟨by decide, by decide⟩ rfl (Nat.le_of_ble_eq_true rfl) dX4_even_10 rfl rfl ?_
    refine V.if_ne (pc := 13) C (tgt := 18) dX4_even_13 (by decide) (fun c4 => ?_) (fun c4 => ?_)
    · have hs := o_el c4 hs
      refine V.sub [0, 1] rfl ?_
      exact tb_X4_even_18 C T _ _ hs
    · have hs := o_if c4 hs
      refine V.iconst (pc := 16) C (v := (-1 : Int32)) dX4_even_16 (by decide) ?_
      exact V.iret (pc := 17) C T hs dX4_even_17
abbrev rmX3_hasItsNeeds : Room := { frames := 4, cells := 0, slots := 0, locals := 86 }
set_option maxRecDepth 20000 in
theorem tb_X3_hasItsNeeds_42 {k : KX} (C : Cx k cX3_hasItsNeeds RX3 3 rmX3_hasItsNeeds) {r : Int32} {hf : Hp} (T : Rx k (some .boolean) (some (.int r)) hf) {K2 : Int32 → Int32 → Hp → Option (Int32 × Hp)} (hK2 : ∀ (x1 : Int32) (x2 : Int32) (h : Hp), K2 x1 x2 h = some (r, hf) → V k rmX3_hasItsNeeds 3 2 [(0, .ref 4), (1, .int x1), (2, .int x2)] [] h) (x1 : Int32) (x2 : Int32) (h : Hp) (hs : X3_hasItsNeeds_b42 K2 x1 x2 h = some (r, hf)) : V k rmX3_hasItsNeeds 3 42 [(0, .ref 4), (1, .int x1), (2, .int x2)] [] h := by
  unfold X3_hasItsNeeds_b42 at hs
  refine V.iinc (pc := 42) C (j := 2) (v := (x2 + (1 : Int32))) (lv2 := [(2, .int (x2 + (1 : Int32))), (0, .ref 4), (1, .int x1)]) dX3_hasItsNeeds_42 rfl rfl (by decide) rfl ?_
  refine V.goto (pc := 45) C (tgt := 2) dX3_hasItsNeeds_45 (by decide) ?_
  refine V.sub [1, 2, 0] rfl ?_
  exact hK2 _ _ _ hs
set_option maxRecDepth 20000 in
theorem tb_X3_hasItsNeeds_2 {k : KX} (C : Cx k cX3_hasItsNeeds RX3 3 rmX3_hasItsNeeds) {r : Int32} {hf : Hp} (T : Rx k (some .boolean) (some (.int r)) hf) {K2 : Int32 → Int32 → Hp → Option (Int32 × Hp)} (hK2 : ∀ (x1 : Int32) (x2 : Int32) (h : Hp), K2 x1 x2 h = some (r, hf) → V k rmX3_hasItsNeeds 3 2 [(0, .ref 4), (1, .int x1), (2, .int x2)] [] h) (x1 : Int32) (x2 : Int32) (h : Hp) (hs : X3_hasItsNeeds_b2 K2 x1 x2 h = some (r, hf)) : V k rmX3_hasItsNeeds 3 2 [(0, .ref 4), (1, .int x1), (2, .int x2)] [] h := by
  unfold X3_hasItsNeeds_b2 at hs
  refine V.iload_n (pc := 2) C dX3_hasItsNeeds_2 2 rfl ?_
  refine V.aload_n (pc := 3) C dX3_hasItsNeeds_3 0 rfl ?_
  refine V.getf (pc := 4) C (o := 4) (j := 3) (v := .int (h.1 4 3)) (by decide) rfl rfl inX3 (by decide) (by decide) wf_116 rfl dX3_hasItsNeeds_4 ?_
  refine V.icmp_ge (pc := 7) C (tgt := 48) dX3_hasItsNeeds_7 (by decide) (fun c1 => ?_) (fun c1 => ?_)
  · have hs := o_if c1 hs
    refine V.iconst (pc := 48) C (v := (1 : Int32)) dX3_hasItsNeeds_48 (by decide) ?_
    exact V.zret (pc := 49) C T (by decide) hs dX3_hasItsNeeds_49
  · have hs := o_el c1 hs
    refine V.iload_n (pc := 10) C dX3_hasItsNeeds_10 1 rfl ?_
    refine V.iload_n (pc := 11) C dX3_hasItsNeeds_11 2 rfl ?_
    obtain ⟨v3, h2, ch2, hs⟩ := o_b2 hs
    refine V.callN (pc := 12) C (rm := rmX4_bit) (y := yX4_bit) (bytes := cX4_bit) (maxL := 2) (ret := (some .int)) (n := 2) (As := [.int x1, .int x2]) (rest := []) (rv := (some (.int v3))) (h1 := h2) (st0 := [.int x2, .int x1]) (st2 := [.int v3]) (ct_X4_bit (kL k) ch2) wf_341 nw_23 wf_340 wf_49 rfl rfl (by decide +kernel) ⟨by decide, by decide⟩ rfl (Nat.le_of_ble_eq_true rfl) dX3_hasItsNeeds_12 rfl rfl ?_
    refine V.iconst (pc := 15) C (v := (1 : Int32)) dX3_hasItsNeeds_15 (by decide) ?_
    refine V.icmp_ne (pc := 16) C (tgt := 42) dX3_hasItsNeeds_16 (by decide) (fun c4 => ?_) (fun c4 => ?_)
    · have hs := o_el c4 hs
      refine V.sub [0, 1, 2] rfl ?_
      exact tb_X3_hasItsNeeds_42 C T hK2 _ _ _ hs
    · have hs := o_if c4 hs
      refine V.aload_n (pc := 19) C dX3_hasItsNeeds_19 0 rfl ?_
      refine V.iload_n (pc := 20) C dX3_hasItsNeeds_20 2 rfl ?_
      obtain ⟨v6, h5, ch5, hs⟩ := o_b2 hs
      refine V.callV (pc := 21) C (o := 4) (rm := rmX3_needsAny) (y := yX3_needsAny) (bytes := cX3_needsAny) (maxL := 2) (ret := (some .boolean)) (n := 1) (As := [.int x2]) (rest := []) (rv := (some (.int v6))) (h1 := h5) (st0 := [.int x2, .ref 4]) (st2 := [.int v6]) (by decide) rfl rfl (ct_X3_needsAny (kL k) ch5) wf_489 wf_428 wf_429 wf_51 wf_430 rfl rfl (by decide +kernel) ⟨by decide, by decide⟩ rfl (Nat.le_of_ble_eq_true rfl) dX3_hasItsNeeds_21 rfl rfl ?_
      refine V.if_eq (pc := 24) C (tgt := 42) dX3_hasItsNeeds_24 (by decide) (fun c7 => ?_) (fun c7 => ?_)
      · have hs := o_if c7 hs
        refine V.sub [0, 1, 2] rfl ?_
        exact tb_X3_hasItsNeeds_42 C T hK2 _ _ _ hs
      · have hs := o_el c7 hs
        refine V.iload_n (pc := 27) C dX3_hasItsNeeds_27 1 rfl ?_
        refine V.aload_n (pc := 28) C dX3_hasItsNeeds_28 0 rfl ?_
        refine V.iload_n (pc := 29) C dX3_hasItsNeeds_29 2 rfl ?_
        refine V.iconst (pc := 30) C (v := (2 : Int32)) dX3_hasItsNeeds_30 (by decide) ?_
        obtain ⟨v9, h8, ch8, hs⟩ := o_b2 hs
        refine V.callV (pc := 31) C (o := 4) (rm := rmX3_of) (y := yX3_of) (bytes := cX3_of) (maxL := 3) (ret := (some .int)) (n := 2) (As := [.int x2, .int (2 : Int32)]) (rest := [.int x1]) (rv := (some (.int v9))) (h1 := h8) (st0 := [.int (2 : Int32), .int x2, .ref 4, .int x1]) (st2 := [.int v9, .int x1]) (by decide) rfl rfl (ct_X3_of (kL k) ch8) wf_431 wf_335 wf_336 wf_51 wf_337 rfl rfl (by decide +kernel) ⟨by decide, by decide⟩ rfl (Nat.le_of_ble_eq_true rfl) dX3_hasItsNeeds_31 rfl rfl ?_
        obtain ⟨v11, h10, ch10, hs⟩ := o_b2 hs
        refine V.callN (pc := 34) C (rm := rmX4_bit) (y := yX4_bit) (bytes := cX4_bit) (maxL := 2) (ret := (some .int)) (n := 2) (As := [.int x1, .int v9]) (rest := []) (rv := (some (.int v11))) (h1 := h10) (st0 := [.int v9, .int x1]) (st2 := [.int v11]) (ct_X4_bit (kL k) ch10) wf_341 nw_23 wf_340 wf_49 rfl rfl (by decide +kernel) ⟨by decide, by decide⟩ rfl (Nat.le_of_ble_eq_true rfl) dX3_hasItsNeeds_34 rfl rfl ?_
        refine V.if_ne (pc := 37) C (tgt := 42) dX3_hasItsNeeds_37 (by decide) (fun c12 => ?_) (fun c12 => ?_)
        · have hs := o_el c12 hs
          refine V.sub [0, 1, 2] rfl ?_
          exact tb_X3_hasItsNeeds_42 C T hK2 _ _ _ hs
        · have hs := o_if c12 hs
          refine V.iconst (pc := 40) C (v := (0 : Int32)) dX3_hasItsNeeds_40 (by decide) ?_
          exact V.zret (pc := 41) C T (by decide) hs dX3_hasItsNeeds_41
theorem tl_X3_hasItsNeeds_2 {k : KX} (C : Cx k cX3_hasItsNeeds RX3 3 rmX3_hasItsNeeds) {r : Int32} {hf : Hp} (T : Rx k (some .boolean) (some (.int r)) hf) : ∀ (n : Nat) (x1 : Int32) (x2 : Int32) (h : Hp), X3_hasItsNeeds_l2 n x1 x2 h = some (r, hf) → V k rmX3_hasItsNeeds 3 2 [(0, .ref 4), (1, .int x1), (2, .int x2)] [] h := by
  intro n
  induction n with
  | zero => intro x1 x2 h hs; cases hs
  | succ n ih => intro x1 x2 h hs; exact tb_X3_hasItsNeeds_2 C T ih x1 x2 h hs
set_option maxRecDepth 20000 in
theorem ct_X3_hasItsNeeds (l : Launch) {x1 : Int32} {h hf : Hp} {r : Int32} (hs : X3_hasItsNeeds x1 h = some (r, hf)) : Ct l yX3_hasItsNeeds (Cond.code yX3_hasItsNeeds cX3_hasItsNeeds 3 (some .boolean) :: wsG) rmX3_hasItsNeeds [.ref 4, .int x1] h (some (.int r)) hf := by
  refine Ct.of (by decide +kernel) (fun _ => Nat.le_of_ble_eq_true rfl) (fun k C T => ?_)
  unfold X3_hasItsNeeds at hs
  show V k rmX3_hasItsNeeds 3 0 [(0, .ref 4), (1, .int x1)] [] h
  refine V.iconst (pc := 0) C (v := (0 : Int32)) dX3_hasItsNeeds_0 (by decide) ?_
  refine V.istore_n (pc := 1) C (i := 2) (lv2 := [(2, .int (0 : Int32)), (0, .ref 4), (1, .int x1)]) dX3_hasItsNeeds_1 rfl (by decide) rfl ?_
  refine V.sub [1, 2, 0] rfl ?_
  exact tl_X3_hasItsNeeds_2 C T fu _ _ _ hs
abbrev rmX4_bestSet : Room := { frames := 5, cells := 0, slots := 0, locals := 113 }
set_option maxRecDepth 20000 in
theorem tb_X4_bestSet_133 {k : KX} (C : Cx k cX4_bestSet RX4 10 rmX4_bestSet) {r : Int32} {hf : Hp} (T : Rx k (some .int) (some (.int r)) hf) {K11 : Int32 → Int32 → Int32 → Int32 → Int32 → Int32 → Hp → Option (Int32 × Hp)} (hK11 : ∀ (x1 : Int32) (x2 : Int32) (x3 : Int32) (x4 : Int32) (x5 : Int32) (x6 : Int32) (h : Hp), K11 x1 x2 x3 x4 x5 x6 h = some (r, hf) → V k rmX4_bestSet 10 11 [(0, .ref 0), (1, .int x1), (2, .int x2), (3, .int x3), (4, .int x4), (5, .int x5), (6, .int x6)] [] h) (x1 : Int32) (x2 : Int32) (x3 : Int32) (x4 : Int32) (x5 : Int32) (x6 : Int32) (h : Hp) (hs : X4_bestSet_b133 K11 x1 x2 x3 x4 x5 x6 h = some (r, hf)) : V k rmX4_bestSet 10 133 [(0, .ref 0), (1, .int x1), (2, .int x2), (3, .int x3), (4, .int x4), (5, .int x5), (6, .int x6)] [] h := by
  unfold X4_bestSet_b133 at hs
  refine V.iinc (pc := 133) C (j := 6) (v := (x6 + (1 : Int32))) (lv2 := [(6, .int (x6 + (1 : Int32))), (0, .ref 0), (1, .int x1), (2, .int x2), (3, .int x3), (4, .int x4), (5, .int x5)]) dX4_bestSet_133 rfl rfl (by decide) rfl ?_
  refine V.goto (pc := 136) C (tgt := 11) dX4_bestSet_136 (by decide) ?_
  refine V.sub [1, 2, 3, 4, 5, 6, 0] rfl ?_
  exact hK11 _ _ _ _ _ _ _ hs
set_option maxRecDepth 20000 in
theorem tb_X4_bestSet_122 {k : KX} (C : Cx k cX4_bestSet RX4 10 rmX4_bestSet) {r : Int32} {hf : Hp} (T : Rx k (some .int) (some (.int r)) hf) {K11 : Int32 → Int32 → Int32 → Int32 → Int32 → Int32 → Hp → Option (Int32 × Hp)} (hK11 : ∀ (x1 : Int32) (x2 : Int32) (x3 : Int32) (x4 : Int32) (x5 : Int32) (x6 : Int32) (h : Hp), K11 x1 x2 x3 x4 x5 x6 h = some (r, hf) → V k rmX4_bestSet 10 11 [(0, .ref 0), (1, .int x1), (2, .int x2), (3, .int x3), (4, .int x4), (5, .int x5), (6, .int x6)] [] h) (x1 : Int32) (x2 : Int32) (x6 : Int32) (x7 : Int32) (x8 : Int32) (h : Hp) (hs : X4_bestSet_b122 K11 x1 x2 x6 x7 x8 h = some (r, hf)) : V k rmX4_bestSet 10 122 [(0, .ref 0), (1, .int x1), (2, .int x2), (6, .int x6), (7, .int x7), (8, .int x8)] [] h := by
  unfold X4_bestSet_b122 at hs
  refine V.iload (pc := 122) C dX4_bestSet_122 3 rfl ?_
  refine V.istore_n (pc := 124) C (i := 3) (lv2 := [(3, .int x6), (0, .ref 0), (1, .int x1), (2, .int x2), (6, .int x6), (7, .int x7), (8, .int x8)]) dX4_bestSet_124 rfl (by decide) rfl ?_
  refine V.iload (pc := 125) C dX4_bestSet_125 5 rfl ?_
  refine V.istore (pc := 127) C (i := 4) (lv2 := [(4, .int x7), (3, .int x6), (0, .ref 0), (1, .int x1), (2, .int x2), (6, .int x6), (7, .int x7), (8, .int x8)]) dX4_bestSet_127 (by decide) rfl ?_
  refine V.iload (pc := 129) C dX4_bestSet_129 7 rfl ?_
  refine V.istore (pc := 131) C (i := 5) (lv2 := [(5, .int x8), (4, .int x7), (3, .int x6), (0, .ref 0), (1, .int x1), (2, .int x2), (6, .int x6), (7, .int x7), (8, .int x8)]) dX4_bestSet_131 (by decide) rfl ?_
  refine V.sub [3, 4, 5, 2, 1, 0, 6] rfl ?_
  exact tb_X4_bestSet_133 C T hK11 _ _ _ _ _ _ _ hs
set_option maxRecDepth 20000 in
theorem tb_X4_bestSet_97 {k : KX} (C : Cx k cX4_bestSet RX4 10 rmX4_bestSet) {r : Int32} {hf : Hp} (T : Rx k (some .int) (some (.int r)) hf) {K11 : Int32 → Int32 → Int32 → Int32 → Int32 → Int32 → Hp → Option (Int32 × Hp)} (hK11 : ∀ (x1 : Int32) (x2 : Int32) (x3 : Int32) (x4 : Int32) (x5 : Int32) (x6 : Int32) (h : Hp), K11 x1 x2 x3 x4 x5 x6 h = some (r, hf) → V k rmX4_bestSet 10 11 [(0, .ref 0), (1, .int x1), (2, .int x2), (3, .int x3), (4, .int x4), (5, .int x5), (6, .int x6)] [] h) (x1 : Int32) (x2 : Int32) (x3 : Int32) (x4 : Int32) (x5 : Int32) (x6 : Int32) (x7 : Int32) (x8 : Int32) (s0 : Int32) (h : Hp) (hs : X4_bestSet_b97 K11 x1 x2 x3 x4 x5 x6 x7 x8 s0 h = some (r, hf)) : V k rmX4_bestSet 10 97 [(0, .ref 0), (1, .int x1), (2, .int x2), (3, .int x3), (4, .int x4), (5, .int x5), (6, .int x6), (7, .int x7), (8, .int x8)] [.int s0] h := by
  unfold X4_bestSet_b97 at hs
  refine V.istore (pc := 97) C (i := 9) (lv2 := [(9, .int s0), (0, .ref 0), (1, .int x1), (2, .int x2), (3, .int x3), (4, .int x4), (5, .int x5), (6, .int x6), (7, .int x7), (8, .int x8)]) dX4_bestSet_97 (by decide) rfl ?_
  refine V.iload (pc := 99) C dX4_bestSet_99 0 rfl ?_
  refine V.if_eq (pc := 101) C (tgt := 133) dX4_bestSet_101 (by decide) (fun c17 => ?_) (fun c17 => ?_)
  · have hs := o_if c17 hs
    refine V.sub [1, 2, 3, 4, 5, 6, 7] rfl ?_
    exact tb_X4_bestSet_133 C T hK11 _ _ _ _ _ _ _ hs
  · have hs := o_el c17 hs
    refine V.iload_n (pc := 104) C dX4_bestSet_104 2 rfl ?_
    refine V.if_eq (pc := 105) C (tgt := 122) dX4_bestSet_105 (by decide) (fun c18 => ?_) (fun c18 => ?_)
    · have hs := o_if c18 hs
      refine V.sub [1, 2, 3, 7, 8, 9] rfl ?_
      exact tb_X4_bestSet_122 C T hK11 _ _ _ _ _ _ hs
    · have hs := o_el c18 hs
      refine V.aload_n (pc := 108) C dX4_bestSet_108 1 rfl ?_
      refine V.getf (pc := 109) C (o := 0) (j := 3) (v := .ref 10) (by decide) rfl rfl inX4 (by decide) (by decide) wf_198 rfl dX4_bestSet_109 ?_
      refine V.iload_n (pc := 112) C dX4_bestSet_112 2 rfl ?_
      refine V.iload (pc := 113) C dX4_bestSet_113 7 rfl ?_
      refine V.iconst (pc := 115) C (v := (0 : Int32)) dX4_bestSet_115 (by decide) ?_
      obtain ⟨v20, h19, ch19, hs⟩ := o_b2 hs
      refine V.callV (pc := 116) C (o := 10) (rm := rmX0_goesOn) (y := yX0_goesOn) (bytes := cX0_goesOn) (maxL := 6) (ret := (some .boolean)) (n := 3) (As := [.int x1, .int x6, .int (0 : Int32)]) (rest := []) (rv := (some (.int v20))) (h1 := h19) (st0 := [.int (0 : Int32), .int x6, .int x1, .ref 10]) (st2 := [.int v20]) (by decide) rfl rfl (ct_X0_goesOn (kL k) ch19) wf_449 wf_450 wf_451 wf_52 wf_452 rfl rfl (by decide +kernel) ⟨by decide, by decide⟩ rfl (Nat.le_of_ble_eq_true rfl) dX4_bestSet_116 rfl rfl ?_
      refine V.if_eq (pc := 119) C (tgt := 133) dX4_bestSet_119 (by decide) (fun c21 => ?_) (fun c21 => ?_)
      · have hs := o_if c21 hs
        refine V.sub [1, 2, 3, 4, 5, 6, 7] rfl ?_
        exact tb_X4_bestSet_133 C T hK11 _ _ _ _ _ _ _ hs
      · have hs := o_el c21 hs
        refine V.sub [1, 2, 3, 7, 8, 9] rfl ?_
        exact tb_X4_bestSet_122 C T hK11 _ _ _ _ _ _ hs
set_option maxRecDepth 20000 in
theorem tb_X4_bestSet_92 {k : KX} (C : Cx k cX4_bestSet RX4 10 rmX4_bestSet) {r : Int32} {hf : Hp} (T : Rx k (some .int) (some (.int r)) hf) {K11 : Int32 → Int32 → Int32 → Int32 → Int32 → Int32 → Hp → Option (Int32 × Hp)} (hK11 : ∀ (x1 : Int32) (x2 : Int32) (x3 : Int32) (x4 : Int32) (x5 : Int32) (x6 : Int32) (h : Hp), K11 x1 x2 x3 x4 x5 x6 h = some (r, hf) → V k rmX4_bestSet 10 11 [(0, .ref 0), (1, .int x1), (2, .int x2), (3, .int x3), (4, .int x4), (5, .int x5), (6, .int x6)] [] h) (x1 : Int32) (x2 : Int32) (x3 : Int32) (x4 : Int32) (x5 : Int32) (x6 : Int32) (x7 : Int32) (x8 : Int32) (h : Hp) (hs : X4_bestSet_b92 K11 x1 x2 x3 x4 x5 x6 x7 x8 h = some (r, hf)) : V k rmX4_bestSet 10 92 [(0, .ref 0), (1, .int x1), (2, .int x2), (3, .int x3), (4, .int x4), (5, .int x5), (6, .int x6), (7, .int x7), (8, .int x8)] [] h := by
  unfold X4_bestSet_b92 at hs
  refine V.iconst (pc := 92) C (v := (1 : Int32)) dX4_bestSet_92 (by decide) ?_
  refine V.goto (pc := 93) C (tgt := 97) dX4_bestSet_93 (by decide) ?_
  refine V.sub [0, 1, 2, 3, 4, 5, 6, 7, 8] rfl ?_
  exact tb_X4_bestSet_97 C T hK11 _ _ _ _ _ _ _ _ _ _ hs
set_option maxRecDepth 20000 in
theorem tb_X4_bestSet_96 {k : KX} (C : Cx k cX4_bestSet RX4 10 rmX4_bestSet) {r : Int32} {hf : Hp} (T : Rx k (some .int) (some (.int r)) hf) {K11 : Int32 → Int32 → Int32 → Int32 → Int32 → Int32 → Hp → Option (Int32 × Hp)} (hK11 : ∀ (x1 : Int32) (x2 : Int32) (x3 : Int32) (x4 : Int32) (x5 : Int32) (x6 : Int32) (h : Hp), K11 x1 x2 x3 x4 x5 x6 h = some (r, hf) → V k rmX4_bestSet 10 11 [(0, .ref 0), (1, .int x1), (2, .int x2), (3, .int x3), (4, .int x4), (5, .int x5), (6, .int x6)] [] h) (x1 : Int32) (x2 : Int32) (x3 : Int32) (x4 : Int32) (x5 : Int32) (x6 : Int32) (x7 : Int32) (x8 : Int32) (h : Hp) (hs : X4_bestSet_b96 K11 x1 x2 x3 x4 x5 x6 x7 x8 h = some (r, hf)) : V k rmX4_bestSet 10 96 [(0, .ref 0), (1, .int x1), (2, .int x2), (3, .int x3), (4, .int x4), (5, .int x5), (6, .int x6), (7, .int x7), (8, .int x8)] [] h := by
  unfold X4_bestSet_b96 at hs
  refine V.iconst (pc := 96) C (v := (0 : Int32)) dX4_bestSet_96 (by decide) ?_
  refine V.sub [0, 1, 2, 3, 4, 5, 6, 7, 8] rfl ?_
  exact tb_X4_bestSet_97 C T hK11 _ _ _ _ _ _ _ _ _ _ hs
set_option maxRecDepth 20000 in
theorem tb_X4_bestSet_11 {k : KX} (C : Cx k cX4_bestSet RX4 10 rmX4_bestSet) {r : Int32} {hf : Hp} (T : Rx k (some .int) (some (.int r)) hf) {K11 : Int32 → Int32 → Int32 → Int32 → Int32 → Int32 → Hp → Option (Int32 × Hp)} (hK11 : ∀ (x1 : Int32) (x2 : Int32) (x3 : Int32) (x4 : Int32) (x5 : Int32) (x6 : Int32) (h : Hp), K11 x1 x2 x3 x4 x5 x6 h = some (r, hf) → V k rmX4_bestSet 10 11 [(0, .ref 0), (1, .int x1), (2, .int x2), (3, .int x3), (4, .int x4), (5, .int x5), (6, .int x6)] [] h) (x1 : Int32) (x2 : Int32) (x3 : Int32) (x4 : Int32) (x5 : Int32) (x6 : Int32) (h : Hp) (hs : X4_bestSet_b11 K11 x1 x2 x3 x4 x5 x6 h = some (r, hf)) : V k rmX4_bestSet 10 11 [(0, .ref 0), (1, .int x1), (2, .int x2), (3, .int x3), (4, .int x4), (5, .int x5), (6, .int x6)] [] h := by
  unfold X4_bestSet_b11 at hs
  refine V.iload (pc := 11) C dX4_bestSet_11 6 rfl ?_
  refine V.aload_n (pc := 13) C dX4_bestSet_13 0 rfl ?_
  refine V.getf (pc := 14) C (o := 0) (j := 1) (v := .ref 4) (by decide) rfl rfl inX4 (by decide) (by decide) wf_196 rfl dX4_bestSet_14 ?_
  obtain ⟨v2, h1, ch1, hs⟩ := o_b2 hs
  refine V.callV (pc := 17) C (o := 4) (rm := rmX3_all) (y := yX3_all) (bytes := cX3_all) (maxL := 1) (ret := (some .int)) (n := 0) (As := []) (rest := [.int x6]) (rv := (some (.int v2))) (h1 := h1) (st0 := [.ref 4, .int x6]) (st2 := [.int v2, .int x6]) (by decide) rfl rfl (ct_X3_all (kL k) ch1) wf_445 wf_446 wf_447 wf_51 wf_448 rfl rfl (by decide +kernel) ⟨by decide, by decide⟩ rfl (Nat.le_of_ble_eq_true rfl) dX4_bestSet_17 rfl rfl ?_
  refine V.icmp_gt (pc := 20) C (tgt := 139) dX4_bestSet_20 (by decide) (fun c3 => ?_) (fun c3 => ?_)
  · have hs := o_if c3 hs
    refine V.iload_n (pc := 139) C dX4_bestSet_139 3 rfl ?_
    exact V.iret (pc := 140) C T hs dX4_bestSet_140
  · have hs := o_el c3 hs
    refine V.iload (pc := 23) C dX4_bestSet_23 6 rfl ?_
    obtain ⟨v5, h4, ch4, hs⟩ := o_b2 hs
    refine V.callS (pc := 25) C (rm := rmJ6_bitCount_0f7a4) (y := yJ6_bitCount_0f7a4) (bytes := cJ6_bitCount_0f7a4) (maxL := 1) (ret := (some .int)) (n := 1) (As := [.int x6]) (rest := []) (rv := (some (.int v5))) (h1 := h4) (st0 := [.int x6]) (st2 := [.int v5]) (ct_J6_bitCount_0f7a4 (kL k) ch4) wf_484 wf_390 wf_57 wf_391 rfl rfl (by decide +kernel) ⟨by decide, by decide⟩ rfl (Nat.le_of_ble_eq_true rfl) dX4_bestSet_25 rfl rfl ?_
    refine V.iload_n (pc := 28) C dX4_bestSet_28 2 rfl ?_
    refine V.icmp_gt (pc := 29) C (tgt := 133) dX4_bestSet_29 (by decide) (fun c6 => ?_) (fun c6 => ?_)
    · have hs := o_if c6 hs
      refine V.sub [0, 1, 2, 3, 4, 5, 6] rfl ?_
      exact tb_X4_bestSet_133 C T hK11 _ _ _ _ _ _ _ hs
    · have hs := o_el c6 hs
      refine V.aload_n (pc := 32) C dX4_bestSet_32 0 rfl ?_
      refine V.getf (pc := 33) C (o := 0) (j := 1) (v := .ref 4) (by decide) rfl rfl inX4 (by decide) (by decide) wf_196 rfl dX4_bestSet_33 ?_
      refine V.iload (pc := 36) C dX4_bestSet_36 6 rfl ?_
      obtain ⟨v8, h7, ch7, hs⟩ := o_b2 hs
      refine V.callV (pc := 38) C (o := 4) (rm := rmX3_hasItsNeeds) (y := yX3_hasItsNeeds) (bytes := cX3_hasItsNeeds) (maxL := 3) (ret := (some .boolean)) (n := 1) (As := [.int x6]) (rest := []) (rv := (some (.int v8))) (h1 := h7) (st0 := [.int x6, .ref 4]) (st2 := [.int v8]) (by decide) rfl rfl (ct_X3_hasItsNeeds (kL k) ch7) wf_485 wf_486 wf_487 wf_51 wf_488 rfl rfl (by decide +kernel) ⟨by decide, by decide⟩ rfl (Nat.le_of_ble_eq_true rfl) dX4_bestSet_38 rfl rfl ?_
      refine V.if_ne (pc := 41) C (tgt := 47) dX4_bestSet_41 (by decide) (fun c9 => ?_) (fun c9 => ?_)
      · have hs := o_el c9 hs
        refine V.aload_n (pc := 47) C dX4_bestSet_47 0 rfl ?_
        refine V.getf (pc := 48) C (o := 0) (j := 1) (v := .ref 4) (by decide) rfl rfl inX4 (by decide) (by decide) wf_196 rfl dX4_bestSet_48 ?_
        refine V.iload (pc := 51) C dX4_bestSet_51 6 rfl ?_
        refine V.iconst (pc := 53) C (v := (1 : Int32)) dX4_bestSet_53 (by decide) ?_
        obtain ⟨v11, h10, ch10, hs⟩ := o_b2 hs
        refine V.callV (pc := 54) C (o := 4) (rm := rmX3_sum) (y := yX3_sum) (bytes := cX3_sum) (maxL := 5) (ret := (some .int)) (n := 2) (As := [.int x6, .int (1 : Int32)]) (rest := []) (rv := (some (.int v11))) (h1 := h10) (st0 := [.int (1 : Int32), .int x6, .ref 4]) (st2 := [.int v11]) (by decide) rfl rfl (ct_X3_sum (kL k) ch10) wf_432 wf_433 wf_434 wf_51 wf_435 rfl rfl (by decide +kernel) ⟨by decide, by decide⟩ rfl (Nat.le_of_ble_eq_true rfl) dX4_bestSet_54 rfl rfl ?_
        refine V.istore (pc := 57) C (i := 7) (lv2 := [(7, .int v11), (0, .ref 0), (1, .int x1), (2, .int x2), (3, .int x3), (4, .int x4), (5, .int x5), (6, .int x6)]) dX4_bestSet_57 (by decide) rfl ?_
        refine V.aload_n (pc := 59) C dX4_bestSet_59 1 rfl ?_
        refine V.getf (pc := 60) C (o := 0) (j := 1) (v := .ref 4) (by decide) rfl rfl inX4 (by decide) (by decide) wf_196 rfl dX4_bestSet_60 ?_
        refine V.iload (pc := 63) C dX4_bestSet_63 7 rfl ?_
        refine V.iconst (pc := 65) C (v := (0 : Int32)) dX4_bestSet_65 (by decide) ?_
        obtain ⟨v13, h12, ch12, hs⟩ := o_b2 hs
        refine V.callV (pc := 66) C (o := 4) (rm := rmX3_sum) (y := yX3_sum) (bytes := cX3_sum) (maxL := 5) (ret := (some .int)) (n := 2) (As := [.int x6, .int (0 : Int32)]) (rest := []) (rv := (some (.int v13))) (h1 := h12) (st0 := [.int (0 : Int32), .int x6, .ref 4]) (st2 := [.int v13]) (by decide) rfl rfl (ct_X3_sum (kL k) ch12) wf_432 wf_433 wf_434 wf_51 wf_435 rfl rfl (by decide +kernel) ⟨by decide, by decide⟩ rfl (Nat.le_of_ble_eq_true rfl) dX4_bestSet_66 rfl rfl ?_
        refine V.istore (pc := 69) C (i := 8) (lv2 := [(8, .int v13), (7, .int v11), (0, .ref 0), (1, .int x1), (2, .int x2), (3, .int x3), (4, .int x4), (5, .int x5), (6, .int x6)]) dX4_bestSet_69 (by decide) rfl ?_
        refine V.iload (pc := 71) C dX4_bestSet_71 1 rfl ?_
        refine V.iload (pc := 73) C dX4_bestSet_73 6 rfl ?_
        refine V.icmp_gt (pc := 75) C (tgt := 92) dX4_bestSet_75 (by decide) (fun c14 => ?_) (fun c14 => ?_)
        · have hs := o_if c14 hs
          refine V.sub [2, 3, 4, 5, 6, 7, 8, 1, 0] rfl ?_
          exact tb_X4_bestSet_92 C T hK11 _ _ _ _ _ _ _ _ _ hs
        · have hs := o_el c14 hs
          refine V.iload (pc := 78) C dX4_bestSet_78 1 rfl ?_
          refine V.iload (pc := 80) C dX4_bestSet_80 6 rfl ?_
          refine V.icmp_ne (pc := 82) C (tgt := 96) dX4_bestSet_82 (by decide) (fun c15 => ?_) (fun c15 => ?_)
          · have hs := o_el c15 hs
            refine V.sub [2, 3, 4, 5, 6, 7, 8, 1, 0] rfl ?_
            exact tb_X4_bestSet_96 C T hK11 _ _ _ _ _ _ _ _ _ hs
          · have hs := o_if c15 hs
            refine V.iload (pc := 85) C dX4_bestSet_85 0 rfl ?_
            refine V.iload (pc := 87) C dX4_bestSet_87 7 rfl ?_
            refine V.icmp_ge (pc := 89) C (tgt := 96) dX4_bestSet_89 (by decide) (fun c16 => ?_) (fun c16 => ?_)
            · have hs := o_if c16 hs
              refine V.sub [2, 3, 4, 5, 6, 7, 8, 1, 0] rfl ?_
              exact tb_X4_bestSet_96 C T hK11 _ _ _ _ _ _ _ _ _ hs
            · have hs := o_el c16 hs
              refine V.sub [2, 3, 4, 5, 6, 7, 8, 1, 0] rfl ?_
              exact tb_X4_bestSet_92 C T hK11 _ _ _ _ _ _ _ _ _ hs
      · have hs := o_if c9 hs
        refine V.goto (pc := 44) C (tgt := 133) dX4_bestSet_44 (by decide) ?_
        refine V.sub [0, 1, 2, 3, 4, 5, 6] rfl ?_
        exact tb_X4_bestSet_133 C T hK11 _ _ _ _ _ _ _ hs
theorem tl_X4_bestSet_11 {k : KX} (C : Cx k cX4_bestSet RX4 10 rmX4_bestSet) {r : Int32} {hf : Hp} (T : Rx k (some .int) (some (.int r)) hf) : ∀ (n : Nat) (x1 : Int32) (x2 : Int32) (x3 : Int32) (x4 : Int32) (x5 : Int32) (x6 : Int32) (h : Hp), X4_bestSet_l11 n x1 x2 x3 x4 x5 x6 h = some (r, hf) → V k rmX4_bestSet 10 11 [(0, .ref 0), (1, .int x1), (2, .int x2), (3, .int x3), (4, .int x4), (5, .int x5), (6, .int x6)] [] h := by
  intro n
  induction n with
  | zero => intro x1 x2 x3 x4 x5 x6 h hs; cases hs
  | succ n ih => intro x1 x2 x3 x4 x5 x6 h hs; exact tb_X4_bestSet_11 C T ih x1 x2 x3 x4 x5 x6 h hs
set_option maxRecDepth 20000 in
theorem ct_X4_bestSet (l : Launch) {x1 : Int32} {x2 : Int32} {h hf : Hp} {r : Int32} (hs : X4_bestSet x1 x2 h = some (r, hf)) : Ct l yX4_bestSet (Cond.code yX4_bestSet cX4_bestSet 10 (some .int) :: wsG) rmX4_bestSet [.ref 0, .int x1, .int x2] h (some (.int r)) hf := by
  refine Ct.of (by decide +kernel) (fun _ => Nat.le_of_ble_eq_true rfl) (fun k C T => ?_)
  unfold X4_bestSet at hs
  show V k rmX4_bestSet 10 0 [(0, .ref 0), (1, .int x1), (2, .int x2)] [] h
  refine V.iconst (pc := 0) C (v := (0 : Int32)) dX4_bestSet_0 (by decide) ?_
  refine V.istore_n (pc := 1) C (i := 3) (lv2 := [(3, .int (0 : Int32)), (0, .ref 0), (1, .int x1), (2, .int x2)]) dX4_bestSet_1 rfl (by decide) rfl ?_
  refine V.iconst (pc := 2) C (v := (0 : Int32)) dX4_bestSet_2 (by decide) ?_
  refine V.istore (pc := 3) C (i := 4) (lv2 := [(4, .int (0 : Int32)), (3, .int (0 : Int32)), (0, .ref 0), (1, .int x1), (2, .int x2)]) dX4_bestSet_3 (by decide) rfl ?_
  refine V.iconst (pc := 5) C (v := (0 : Int32)) dX4_bestSet_5 (by decide) ?_
  refine V.istore (pc := 6) C (i := 5) (lv2 := [(5, .int (0 : Int32)), (4, .int (0 : Int32)), (3, .int (0 : Int32)), (0, .ref 0), (1, .int x1), (2, .int x2)]) dX4_bestSet_6 (by decide) rfl ?_
  refine V.iconst (pc := 8) C (v := (1 : Int32)) dX4_bestSet_8 (by decide) ?_
  refine V.istore (pc := 9) C (i := 6) (lv2 := [(6, .int (1 : Int32)), (5, .int (0 : Int32)), (4, .int (0 : Int32)), (3, .int (0 : Int32)), (0, .ref 0), (1, .int x1), (2, .int x2)]) dX4_bestSet_9 (by decide) rfl ?_
  refine V.sub [4, 5, 6, 3, 2, 1, 0] rfl ?_
  exact tl_X4_bestSet_11 C T fu _ _ _ _ _ _ _ hs
abbrev rmX4_kept : Room := { frames := 6, cells := 0, slots := 0, locals := 142 }
set_option maxRecDepth 20000 in
theorem ct_X4_kept (l : Launch) {x1 : Int32} {x2 : Int32} {h hf : Hp} {r : Int32} (hs : X4_kept x1 x2 h = some (r, hf)) : Ct l yX4_kept (Cond.code yX4_kept cX4_kept 4 (some .int) :: wsG) rmX4_kept [.ref 0, .int x1, .int x2] h (some (.int r)) hf := by
  refine Ct.of (by decide +kernel) (fun _ => Nat.le_of_ble_eq_true rfl) (fun k C T => ?_)
  unfold X4_kept at hs
  show V k rmX4_kept 4 0 [(0, .ref 0), (1, .int x1), (2, .int x2)] [] h
  refine V.aload_n (pc := 0) C dX4_kept_0 0 rfl ?_
  refine V.iload_n (pc := 1) C dX4_kept_1 1 rfl ?_
  obtain ⟨v2, h1, ch1, hs⟩ := o_b2 hs
  refine V.callV (pc := 2) C (o := 0) (rm := rmX4_isSize) (y := yX4_isSize) (bytes := cX4_isSize) (maxL := 2) (ret := (some .boolean)) (n := 1) (As := [.int x1]) (rest := []) (rv := (some (.int v2))) (h1 := h1) (st0 := [.int x1, .ref 0]) (st2 := [.int v2]) (by decide) rfl rfl (ct_X4_isSize (kL k) ch1) wf_441 wf_443 wf_10 wf_49 wf_444 rfl rfl (by decide +kernel) ⟨by decide, by decide⟩ rfl (Nat.le_of_ble_eq_true rfl) dX4_kept_2 rfl rfl ?_
  refine V.if_eq (pc := 5) C (tgt := 17) dX4_kept_5 (by decide) (fun c3 => ?_) (fun c3 => ?_)
  · have hs := o_if c3 hs
    refine V.iconst (pc := 17) C (v := (-1 : Int32)) dX4_kept_17 (by decide) ?_
    exact V.iret (pc := 18) C T hs dX4_kept_18
  · have hs := o_el c3 hs
    refine V.iload_n (pc := 8) C dX4_kept_8 2 rfl ?_
    refine V.iconst (pc := 9) C (v := (0 : Int32)) dX4_kept_9 (by decide) ?_
    refine V.iconst (pc := 10) C (v := (1 : Int32)) dX4_kept_10 (by decide) ?_
    obtain ⟨v5, h4, ch4, hs⟩ := o_b2 hs
    refine V.callS (pc := 11) C (rm := rmX4_within) (y := yX4_within) (bytes := cX4_within) (maxL := 3) (ret := (some .boolean)) (n := 3) (As := [.int x2, .int (0 : Int32), .int (1 : Int32)]) (rest := []) (rv := (some (.int v5))) (h1 := h4) (st0 := [.int (1 : Int32), .int (0 : Int32), .int x2]) (st2 := [.int v5]) (ct_X4_within (kL k) ch4) wf_236 wf_237 wf_49 wf_238 rfl rfl (by decide +kernel) ⟨by decide, by decide⟩ rfl (Nat.le_of_ble_eq_true rfl) dX4_kept_11 rfl rfl ?_
    refine V.if_ne (pc := 14) C (tgt := 19) dX4_kept_14 (by decide) (fun c6 => ?_) (fun c6 => ?_)
    · have hs := o_el c6 hs
      refine V.aload_n (pc := 19) C dX4_kept_19 0 rfl ?_
      refine V.iload_n (pc := 20) C dX4_kept_20 1 rfl ?_
      refine V.bipush (pc := 21) C (v := (10 : Int32)) dX4_kept_21 (by decide) ?_
      obtain ⟨v8, h7, ch7, hs⟩ := o_b2 hs
      refine V.callV (pc := 23) C (o := 0) (rm := rmX4_bestSet) (y := yX4_bestSet) (bytes := cX4_bestSet) (maxL := 10) (ret := (some .int)) (n := 2) (As := [.int x1, .int (10 : Int32)]) (rest := []) (rv := (some (.int v8))) (h1 := h7) (st0 := [.int (10 : Int32), .int x1, .ref 0]) (st2 := [.int v8]) (by decide) rfl rfl (ct_X4_bestSet (kL k) ch7) wf_480 wf_482 wf_13 wf_49 wf_483 rfl rfl (by decide +kernel) ⟨by decide, by decide⟩ rfl (Nat.le_of_ble_eq_true rfl) dX4_kept_23 rfl rfl ?_
      refine V.istore_n (pc := 26) C (i := 3) (lv2 := [(3, .int v8), (0, .ref 0), (1, .int x1), (2, .int x2)]) dX4_kept_26 rfl (by decide) rfl ?_
      refine V.iload_n (pc := 27) C dX4_kept_27 3 rfl ?_
      refine V.if_ne (pc := 28) C (tgt := 43) dX4_kept_28 (by decide) (fun c9 => ?_) (fun c9 => ?_)
      · have hs := o_el c9 hs
        refine V.iload_n (pc := 43) C dX4_kept_43 0 rfl ?_
        exact V.iret (pc := 44) C T hs dX4_kept_44
      · have hs := o_if c9 hs
        refine V.aload_n (pc := 31) C dX4_kept_31 1 rfl ?_
        refine V.getf (pc := 32) C (o := 0) (j := 1) (v := .ref 4) (by decide) rfl rfl inX4 (by decide) (by decide) wf_196 rfl dX4_kept_32 ?_
        refine V.iload_n (pc := 35) C dX4_kept_35 0 rfl ?_
        refine V.iconst (pc := 36) C (v := (1 : Int32)) dX4_kept_36 (by decide) ?_
        obtain ⟨v11, h10, ch10, hs⟩ := o_b2 hs
        refine V.callV (pc := 37) C (o := 4) (rm := rmX3_sum) (y := yX3_sum) (bytes := cX3_sum) (maxL := 5) (ret := (some .int)) (n := 2) (As := [.int v8, .int (1 : Int32)]) (rest := []) (rv := (some (.int v11))) (h1 := h10) (st0 := [.int (1 : Int32), .int v8, .ref 4]) (st2 := [.int v11]) (by decide) rfl rfl (ct_X3_sum (kL k) ch10) wf_432 wf_433 wf_434 wf_51 wf_435 rfl rfl (by decide +kernel) ⟨by decide, by decide⟩ rfl (Nat.le_of_ble_eq_true rfl) dX4_kept_37 rfl rfl ?_
        refine V.goto (pc := 40) C (tgt := 44) dX4_kept_40 (by decide) ?_
        exact V.iret (pc := 44) C T hs dX4_kept_44
    · have hs := o_if c6 hs
      refine V.iconst (pc := 17) C (v := (-1 : Int32)) dX4_kept_17 (by decide) ?_
      exact V.iret (pc := 18) C T hs dX4_kept_18
abbrev rmX4_telegram : Room := { frames := 6, cells := 0, slots := 0, locals := 142 }
set_option maxRecDepth 20000 in
theorem ct_X4_telegram (l : Launch) {x1 : Int32} {x2 : Int32} {h hf : Hp} {r : Int32} (hs : X4_telegram x1 x2 h = some (r, hf)) : Ct l yX4_telegram (Cond.code yX4_telegram cX4_telegram 4 (some .int) :: wsG) rmX4_telegram [.ref 0, .int x1, .int x2] h (some (.int r)) hf := by
  refine Ct.of (by decide +kernel) (fun _ => Nat.le_of_ble_eq_true rfl) (fun k C T => ?_)
  unfold X4_telegram at hs
  show V k rmX4_telegram 4 0 [(0, .ref 0), (1, .int x1), (2, .int x2)] [] h
  refine V.iload_n (pc := 0) C dX4_telegram_0 1 rfl ?_
  refine V.iconst (pc := 1) C (v := (0 : Int32)) dX4_telegram_1 (by decide) ?_
  refine V.bipush (pc := 2) C (v := (10 : Int32)) dX4_telegram_2 (by decide) ?_
  obtain ⟨v2, h1, ch1, hs⟩ := o_b2 hs
  refine V.callS (pc := 4) C (rm := rmX4_within) (y := yX4_within) (bytes := cX4_within) (maxL := 3) (ret := (some .boolean)) (n := 3) (As := [.int x1, .int (0 : Int32), .int (10 : Int32)]) (rest := []) (rv := (some (.int v2))) (h1 := h1) (st0 := [.int (10 : Int32), .int (0 : Int32), .int x1]) (st2 := [.int v2]) (ct_X4_within (kL k) ch1) wf_236 wf_237 wf_49 wf_238 rfl rfl (by decide +kernel) ⟨by decide, by decide⟩ rfl (Nat.le_of_ble_eq_true rfl) dX4_telegram_4 rfl rfl ?_
  refine V.if_eq (pc := 7) C (tgt := 19) dX4_telegram_7 (by decide) (fun c3 => ?_) (fun c3 => ?_)
  · have hs := o_if c3 hs
    refine V.iconst (pc := 19) C (v := (-1 : Int32)) dX4_telegram_19 (by decide) ?_
    exact V.iret (pc := 20) C T hs dX4_telegram_20
  · have hs := o_el c3 hs
    refine V.iload_n (pc := 10) C dX4_telegram_10 2 rfl ?_
    refine V.iconst (pc := 11) C (v := (0 : Int32)) dX4_telegram_11 (by decide) ?_
    refine V.iconst (pc := 12) C (v := (1 : Int32)) dX4_telegram_12 (by decide) ?_
    obtain ⟨v5, h4, ch4, hs⟩ := o_b2 hs
    refine V.callS (pc := 13) C (rm := rmX4_within) (y := yX4_within) (bytes := cX4_within) (maxL := 3) (ret := (some .boolean)) (n := 3) (As := [.int x2, .int (0 : Int32), .int (1 : Int32)]) (rest := []) (rv := (some (.int v5))) (h1 := h4) (st0 := [.int (1 : Int32), .int (0 : Int32), .int x2]) (st2 := [.int v5]) (ct_X4_within (kL k) ch4) wf_236 wf_237 wf_49 wf_238 rfl rfl (by decide +kernel) ⟨by decide, by decide⟩ rfl (Nat.le_of_ble_eq_true rfl) dX4_telegram_13 rfl rfl ?_
    refine V.if_ne (pc := 16) C (tgt := 21) dX4_telegram_16 (by decide) (fun c6 => ?_) (fun c6 => ?_)
    · have hs := o_el c6 hs
      refine V.aload_n (pc := 21) C dX4_telegram_21 0 rfl ?_
      refine V.iconst (pc := 22) C (v := (0 : Int32)) dX4_telegram_22 (by decide) ?_
      refine V.iload_n (pc := 23) C dX4_telegram_23 1 rfl ?_
      obtain ⟨v8, h7, ch7, hs⟩ := o_b2 hs
      refine V.callV (pc := 24) C (o := 0) (rm := rmX4_bestSet) (y := yX4_bestSet) (bytes := cX4_bestSet) (maxL := 10) (ret := (some .int)) (n := 2) (As := [.int (0 : Int32), .int x1]) (rest := []) (rv := (some (.int v8))) (h1 := h7) (st0 := [.int x1, .int (0 : Int32), .ref 0]) (st2 := [.int v8]) (by decide) rfl rfl (ct_X4_bestSet (kL k) ch7) wf_480 wf_482 wf_13 wf_49 wf_483 rfl rfl (by decide +kernel) ⟨by decide, by decide⟩ rfl (Nat.le_of_ble_eq_true rfl) dX4_telegram_24 rfl rfl ?_
      refine V.istore_n (pc := 27) C (i := 3) (lv2 := [(3, .int v8), (0, .ref 0), (1, .int x1), (2, .int x2)]) dX4_telegram_27 rfl (by decide) rfl ?_
      refine V.iload_n (pc := 28) C dX4_telegram_28 3 rfl ?_
      refine V.if_ne (pc := 29) C (tgt := 44) dX4_telegram_29 (by decide) (fun c9 => ?_) (fun c9 => ?_)
      · have hs := o_el c9 hs
        refine V.iload_n (pc := 44) C dX4_telegram_44 0 rfl ?_
        exact V.iret (pc := 45) C T hs dX4_telegram_45
      · have hs := o_if c9 hs
        refine V.aload_n (pc := 32) C dX4_telegram_32 1 rfl ?_
        refine V.getf (pc := 33) C (o := 0) (j := 1) (v := .ref 4) (by decide) rfl rfl inX4 (by decide) (by decide) wf_196 rfl dX4_telegram_33 ?_
        refine V.iload_n (pc := 36) C dX4_telegram_36 0 rfl ?_
        refine V.iconst (pc := 37) C (v := (1 : Int32)) dX4_telegram_37 (by decide) ?_
        obtain ⟨v11, h10, ch10, hs⟩ := o_b2 hs
        refine V.callV (pc := 38) C (o := 4) (rm := rmX3_sum) (y := yX3_sum) (bytes := cX3_sum) (maxL := 5) (ret := (some .int)) (n := 2) (As := [.int v8, .int (1 : Int32)]) (rest := []) (rv := (some (.int v11))) (h1 := h10) (st0 := [.int (1 : Int32), .int v8, .ref 4]) (st2 := [.int v11]) (by decide) rfl rfl (ct_X3_sum (kL k) ch10) wf_432 wf_433 wf_434 wf_51 wf_435 rfl rfl (by decide +kernel) ⟨by decide, by decide⟩ rfl (Nat.le_of_ble_eq_true rfl) dX4_telegram_38 rfl rfl ?_
        refine V.goto (pc := 41) C (tgt := 45) dX4_telegram_41 (by decide) ?_
        exact V.iret (pc := 45) C T hs dX4_telegram_45
    · have hs := o_if c6 hs
      refine V.iconst (pc := 19) C (v := (-1 : Int32)) dX4_telegram_19 (by decide) ?_
      exact V.iret (pc := 20) C T hs dX4_telegram_20
abbrev rmX0_howFar : Room := { frames := 4, cells := 0, slots := 0, locals := 88 }
set_option maxRecDepth 20000 in
theorem tb_X0_howFar_7 {k : KX} (C : Cx k cX0_howFar RX0 4 rmX0_howFar) {r : Int32} {hf : Hp} (T : Rx k (some .int) (some (.int r)) hf) {K7 : Int32 → Int32 → Hp → Option (Int32 × Hp)} (hK7 : ∀ (x1 : Int32) (x3 : Int32) (h : Hp), K7 x1 x3 h = some (r, hf) → V k rmX0_howFar 4 7 [(0, .ref 10), (1, .int x1), (3, .int x3)] [] h) (x1 : Int32) (x3 : Int32) (h : Hp) (hs : X0_howFar_b7 K7 x1 x3 h = some (r, hf)) : V k rmX0_howFar 4 7 [(0, .ref 10), (1, .int x1), (3, .int x3)] [] h := by
  unfold X0_howFar_b7 at hs
  refine V.iload_n (pc := 7) C dX0_howFar_7 2 rfl ?_
  refine V.aload_n (pc := 8) C dX0_howFar_8 0 rfl ?_
  refine V.getf (pc := 9) C (o := 10) (j := 0) (v := .ref 4) (by decide) rfl rfl inX0 (by decide) (by decide) wf_140 rfl dX0_howFar_9 ?_
  refine V.getN (pc := 12) C (o := 4) (j := 3) (v := .int (h.1 4 3)) (by decide) rfl rfl inX3 (by decide) (by decide) nw_8 rfl dX0_howFar_12 ?_
  refine V.icmp_ge (pc := 15) C (tgt := 43) dX0_howFar_15 (by decide) (fun c2 => ?_) (fun c2 => ?_)
  · have hs := o_if c2 hs
    refine V.aload_n (pc := 43) C dX0_howFar_43 0 rfl ?_
    refine V.getf (pc := 44) C (o := 10) (j := 0) (v := .ref 4) (by decide) rfl rfl inX0 (by decide) (by decide) wf_140 rfl dX0_howFar_44 ?_
    refine V.getN (pc := 47) C (o := 4) (j := 3) (v := .int (h.1 4 3)) (by decide) rfl rfl inX3 (by decide) (by decide) nw_8 rfl dX0_howFar_47 ?_
    exact V.iret (pc := 50) C T hs dX0_howFar_50
  · have hs := o_el c2 hs
    refine V.aload_n (pc := 18) C dX0_howFar_18 0 rfl ?_
    refine V.aload_n (pc := 19) C dX0_howFar_19 0 rfl ?_
    refine V.getf (pc := 20) C (o := 10) (j := 0) (v := .ref 4) (by decide) rfl rfl inX0 (by decide) (by decide) wf_140 rfl dX0_howFar_20 ?_
    refine V.iload_n (pc := 23) C dX0_howFar_23 2 rfl ?_
    refine V.iconst (pc := 24) C (v := (0 : Int32)) dX0_howFar_24 (by decide) ?_
    obtain ⟨v4, h3, ch3, hs⟩ := o_b2 hs
    refine V.callV (pc := 25) C (o := 4) (rm := rmX3_of) (y := yX3_of) (bytes := cX3_of) (maxL := 3) (ret := (some .int)) (n := 2) (As := [.int x3, .int (0 : Int32)]) (rest := [.ref 10]) (rv := (some (.int v4))) (h1 := h3) (st0 := [.int (0 : Int32), .int x3, .ref 4, .ref 10]) (st2 := [.int v4, .ref 10]) (by decide) rfl rfl (ct_X3_of (kL k) ch3) wf_462 wf_335 wf_336 wf_51 wf_337 rfl rfl (by decide +kernel) ⟨by decide, by decide⟩ rfl (Nat.le_of_ble_eq_true rfl) dX0_howFar_25 rfl rfl ?_
    refine V.iload_n (pc := 28) C dX0_howFar_28 1 rfl ?_
    obtain ⟨v6, h5, ch5, hs⟩ := o_b2 hs
    refine V.callV (pc := 29) C (o := 10) (rm := rmX0_put) (y := yX0_put) (bytes := cX0_put) (maxL := 5) (ret := (some .boolean)) (n := 2) (As := [.int v4, .int x1]) (rest := []) (rv := (some (.int v6))) (h1 := h5) (st0 := [.int x1, .int v4, .ref 10]) (st2 := [.int v6]) (by decide) rfl rfl (ct_X0_put (kL k) ch5) wf_463 wf_465 wf_12 wf_52 wf_466 rfl rfl (by decide +kernel) ⟨by decide, by decide⟩ rfl (Nat.le_of_ble_eq_true rfl) dX0_howFar_29 rfl rfl ?_
    refine V.if_ne (pc := 32) C (tgt := 37) dX0_howFar_32 (by decide) (fun c7 => ?_) (fun c7 => ?_)
    · have hs := o_el c7 hs
      refine V.iinc (pc := 37) C (j := 2) (v := (x3 + (1 : Int32))) (lv2 := [(3, .int (x3 + (1 : Int32))), (0, .ref 10), (1, .int x1)]) dX0_howFar_37 rfl rfl (by decide) rfl ?_
      refine V.goto (pc := 40) C (tgt := 7) dX0_howFar_40 (by decide) ?_
      refine V.sub [1, 2, 0] rfl ?_
      exact hK7 _ _ _ hs
    · have hs := o_if c7 hs
      refine V.iload_n (pc := 35) C dX0_howFar_35 2 rfl ?_
      exact V.iret (pc := 36) C T hs dX0_howFar_36
theorem tl_X0_howFar_7 {k : KX} (C : Cx k cX0_howFar RX0 4 rmX0_howFar) {r : Int32} {hf : Hp} (T : Rx k (some .int) (some (.int r)) hf) : ∀ (n : Nat) (x1 : Int32) (x3 : Int32) (h : Hp), X0_howFar_l7 n x1 x3 h = some (r, hf) → V k rmX0_howFar 4 7 [(0, .ref 10), (1, .int x1), (3, .int x3)] [] h := by
  intro n
  induction n with
  | zero => intro x1 x3 h hs; cases hs
  | succ n ih => intro x1 x3 h hs; exact tb_X0_howFar_7 C T ih x1 x3 h hs
set_option maxRecDepth 20000 in
theorem ct_X0_howFar (l : Launch) {x1 : Int32} {x2 : Int32} {h hf : Hp} {r : Int32} (hs : X0_howFar x1 x2 h = some (r, hf)) : Ct l yX0_howFar (Cond.code yX0_howFar cX0_howFar 4 (some .int) :: wsG) rmX0_howFar [.ref 10, .int x1, .int x2] h (some (.int r)) hf := by
  refine Ct.of (by decide +kernel) (fun _ => Nat.le_of_ble_eq_true rfl) (fun k C T => ?_)
  unfold X0_howFar at hs
  show V k rmX0_howFar 4 0 [(0, .ref 10), (1, .int x1), (2, .int x2)] [] h
  refine V.aload_n (pc := 0) C dX0_howFar_0 0 rfl ?_
  refine V.iload_n (pc := 1) C dX0_howFar_1 2 rfl ?_
  obtain ⟨h1, ch1, hs⟩ := o_bind hs
  refine V.callV (pc := 2) C (o := 10) (rm := rmX0_begin) (y := yX0_begin) (bytes := cX0_begin) (maxL := 2) (ret := none) (n := 1) (As := [.int x2]) (rest := []) (rv := none) (h1 := h1) (st0 := [.int x2, .ref 10]) (st2 := []) (by decide) rfl rfl (ct_X0_begin (kL k) ch1) wf_453 wf_455 wf_11 wf_52 wf_456 rfl rfl (by decide +kernel) ⟨by decide, by decide⟩ rfl (Nat.le_of_ble_eq_true rfl) dX0_howFar_2 rfl rfl ?_
  refine V.iconst (pc := 5) C (v := (0 : Int32)) dX0_howFar_5 (by decide) ?_
  refine V.istore_n (pc := 6) C (i := 3) (lv2 := [(3, .int (0 : Int32)), (0, .ref 10), (1, .int x1), (2, .int x2)]) dX0_howFar_6 rfl (by decide) rfl ?_
  refine V.sub [1, 2, 0] rfl ?_
  exact tl_X0_howFar_7 C T fu _ _ _ hs
abbrev rmX4_begun : Room := { frames := 5, cells := 0, slots := 0, locals := 111 }
set_option maxRecDepth 20000 in
theorem ct_X4_begun (l : Launch) {x1 : Int32} {x2 : Int32} {h hf : Hp} {r : Int32} (hs : X4_begun x1 x2 h = some (r, hf)) : Ct l yX4_begun (Cond.code yX4_begun cX4_begun 3 (some .int) :: wsG) rmX4_begun [.ref 0, .int x1, .int x2] h (some (.int r)) hf := by
  refine Ct.of (by decide +kernel) (fun _ => Nat.le_of_ble_eq_true rfl) (fun k C T => ?_)
  unfold X4_begun at hs
  show V k rmX4_begun 3 0 [(0, .ref 0), (1, .int x1), (2, .int x2)] [] h
  refine V.aload_n (pc := 0) C dX4_begun_0 0 rfl ?_
  refine V.iload_n (pc := 1) C dX4_begun_1 1 rfl ?_
  obtain ⟨v2, h1, ch1, hs⟩ := o_b2 hs
  refine V.callV (pc := 2) C (o := 0) (rm := rmX4_isSize) (y := yX4_isSize) (bytes := cX4_isSize) (maxL := 2) (ret := (some .boolean)) (n := 1) (As := [.int x1]) (rest := []) (rv := (some (.int v2))) (h1 := h1) (st0 := [.int x1, .ref 0]) (st2 := [.int v2]) (by decide) rfl rfl (ct_X4_isSize (kL k) ch1) wf_441 wf_443 wf_10 wf_49 wf_444 rfl rfl (by decide +kernel) ⟨by decide, by decide⟩ rfl (Nat.le_of_ble_eq_true rfl) dX4_begun_2 rfl rfl ?_
  refine V.if_eq (pc := 5) C (tgt := 18) dX4_begun_5 (by decide) (fun c3 => ?_) (fun c3 => ?_)
  · have hs := o_if c3 hs
    refine V.iconst (pc := 18) C (v := (-1 : Int32)) dX4_begun_18 (by decide) ?_
    exact V.iret (pc := 19) C T hs dX4_begun_19
  · have hs := o_el c3 hs
    refine V.iload_n (pc := 8) C dX4_begun_8 2 rfl ?_
    refine V.iconst (pc := 9) C (v := (0 : Int32)) dX4_begun_9 (by decide) ?_
    refine V.bipush (pc := 10) C (v := (60 : Int32)) dX4_begun_10 (by decide) ?_
    obtain ⟨v5, h4, ch4, hs⟩ := o_b2 hs
    refine V.callS (pc := 12) C (rm := rmX4_within) (y := yX4_within) (bytes := cX4_within) (maxL := 3) (ret := (some .boolean)) (n := 3) (As := [.int x2, .int (0 : Int32), .int (60 : Int32)]) (rest := []) (rv := (some (.int v5))) (h1 := h4) (st0 := [.int (60 : Int32), .int (0 : Int32), .int x2]) (st2 := [.int v5]) (ct_X4_within (kL k) ch4) wf_236 wf_237 wf_49 wf_238 rfl rfl (by decide +kernel) ⟨by decide, by decide⟩ rfl (Nat.le_of_ble_eq_true rfl) dX4_begun_12 rfl rfl ?_
    refine V.if_ne (pc := 15) C (tgt := 20) dX4_begun_15 (by decide) (fun c6 => ?_) (fun c6 => ?_)
    · have hs := o_el c6 hs
      refine V.aload_n (pc := 20) C dX4_begun_20 0 rfl ?_
      refine V.getf (pc := 21) C (o := 0) (j := 3) (v := .ref 10) (by decide) rfl rfl inX4 (by decide) (by decide) wf_198 rfl dX4_begun_21 ?_
      refine V.iload_n (pc := 24) C dX4_begun_24 1 rfl ?_
      refine V.iload_n (pc := 25) C dX4_begun_25 2 rfl ?_
      obtain ⟨v8, h7, ch7, hs⟩ := o_b2 hs
      refine V.callV (pc := 26) C (o := 10) (rm := rmX0_howFar) (y := yX0_howFar) (bytes := cX0_howFar) (maxL := 4) (ret := (some .int)) (n := 2) (As := [.int x1, .int x2]) (rest := []) (rv := (some (.int v8))) (h1 := h7) (st0 := [.int x2, .int x1, .ref 10]) (st2 := [.int v8]) (by decide) rfl rfl (ct_X0_howFar (kL k) ch7) wf_498 wf_499 wf_500 wf_52 wf_501 rfl rfl (by decide +kernel) ⟨by decide, by decide⟩ rfl (Nat.le_of_ble_eq_true rfl) dX4_begun_26 rfl rfl ?_
      exact V.iret (pc := 29) C T hs dX4_begun_29
    · have hs := o_if c6 hs
      refine V.iconst (pc := 18) C (v := (-1 : Int32)) dX4_begun_18 (by decide) ?_
      exact V.iret (pc := 19) C T hs dX4_begun_19
abbrev rmX4_power : Room := { frames := 0, cells := 0, slots := 0, locals := 0 }
set_option maxRecDepth 20000 in
theorem tb_X4_power_5 {k : KX} (C : Cx k cX4_power RX4 5 rmX4_power) {r : Int64} {hf : Hp} (T : Rx k (some .long) (some (.long r)) hf) {K5 : Int32 → Int32 → Int64 → Int32 → Hp → Option (Int64 × Hp)} (hK5 : ∀ (x0 : Int32) (x1 : Int32) (x2 : Int64) (x4 : Int32) (h : Hp), K5 x0 x1 x2 x4 h = some (r, hf) → V k rmX4_power 5 5 [(0, .int x0), (1, .int x1), (2, .long x2), (4, .int x4)] [] h) (x0 : Int32) (x1 : Int32) (x2 : Int64) (x4 : Int32) (h : Hp) (hs : X4_power_b5 K5 x0 x1 x2 x4 h = some (r, hf)) : V k rmX4_power 5 5 [(0, .int x0), (1, .int x1), (2, .long x2), (4, .int x4)] [] h := by
  unfold X4_power_b5 at hs
  refine V.iload (pc := 5) C dX4_power_5 3 rfl ?_
  refine V.iload_n (pc := 7) C dX4_power_7 1 rfl ?_
  refine V.icmp_ge (pc := 8) C (tgt := 22) dX4_power_8 (by decide) (fun c1 => ?_) (fun c1 => ?_)
  · have hs := o_if c1 hs
    refine V.lload_n (pc := 22) C dX4_power_22 2 rfl ?_
    exact V.lret (pc := 23) C T hs dX4_power_23
  · have hs := o_el c1 hs
    refine V.lload_n (pc := 11) C dX4_power_11 2 rfl ?_
    refine V.iload_n (pc := 12) C dX4_power_12 0 rfl ?_
    refine V.i2l (pc := 13) C dX4_power_13 ?_
    refine V.lmul (pc := 14) C dX4_power_14 ?_
    refine V.lstore_n (pc := 15) C (i := 2) (lv2 := [(2, .long (x2 * x0.toInt64)), (0, .int x0), (1, .int x1), (4, .int x4)]) dX4_power_15 rfl (by decide) rfl ?_
    refine V.iinc (pc := 16) C (j := 3) (v := (x4 + (1 : Int32))) (lv2 := [(4, .int (x4 + (1 : Int32))), (2, .long (x2 * x0.toInt64)), (0, .int x0), (1, .int x1)]) dX4_power_16 rfl rfl (by decide) rfl ?_
    refine V.goto (pc := 19) C (tgt := 5) dX4_power_19 (by decide) ?_
    refine V.sub [2, 3, 1, 0] rfl ?_
    exact hK5 _ _ _ _ _ hs
theorem tl_X4_power_5 {k : KX} (C : Cx k cX4_power RX4 5 rmX4_power) {r : Int64} {hf : Hp} (T : Rx k (some .long) (some (.long r)) hf) : ∀ (n : Nat) (x0 : Int32) (x1 : Int32) (x2 : Int64) (x4 : Int32) (h : Hp), X4_power_l5 n x0 x1 x2 x4 h = some (r, hf) → V k rmX4_power 5 5 [(0, .int x0), (1, .int x1), (2, .long x2), (4, .int x4)] [] h := by
  intro n
  induction n with
  | zero => intro x0 x1 x2 x4 h hs; cases hs
  | succ n ih => intro x0 x1 x2 x4 h hs; exact tb_X4_power_5 C T ih x0 x1 x2 x4 h hs
set_option maxRecDepth 20000 in
theorem ct_X4_power (l : Launch) {x0 : Int32} {x1 : Int32} {h hf : Hp} {r : Int64} (hs : X4_power x0 x1 h = some (r, hf)) : Ct l yX4_power (Cond.code yX4_power cX4_power 5 (some .long) :: wsG) rmX4_power [.int x0, .int x1] h (some (.long r)) hf := by
  refine Ct.of (by decide +kernel) (fun _ => Nat.le_of_ble_eq_true rfl) (fun k C T => ?_)
  unfold X4_power at hs
  show V k rmX4_power 5 0 [(0, .int x0), (1, .int x1)] [] h
  refine V.lconst (pc := 0) C (v := (1 : Int64)) dX4_power_0 (by decide) ?_
  refine V.lstore_n (pc := 1) C (i := 2) (lv2 := [(2, .long (1 : Int64)), (0, .int x0), (1, .int x1)]) dX4_power_1 rfl (by decide) rfl ?_
  refine V.iconst (pc := 2) C (v := (0 : Int32)) dX4_power_2 (by decide) ?_
  refine V.istore (pc := 3) C (i := 4) (lv2 := [(4, .int (0 : Int32)), (2, .long (1 : Int64)), (0, .int x0), (1, .int x1)]) dX4_power_3 (by decide) rfl ?_
  refine V.sub [2, 3, 1, 0] rfl ?_
  exact tl_X4_power_5 C T fu _ _ _ _ _ hs
abbrev rmX4_leastTerm : Room := { frames := 1, cells := 0, slots := 0, locals := 24 }
set_option maxRecDepth 20000 in
theorem tb_X4_leastTerm_65 {k : KX} (C : Cx k cX4_leastTerm RX4 7 rmX4_leastTerm) {r : Int64} {hf : Hp} (T : Rx k (some .long) (some (.long r)) hf) {K11 : Int64 → Int32 → Int32 → Int64 → Int32 → Hp → Option (Int64 × Hp)} (hK11 : ∀ (x0 : Int64) (x2 : Int32) (x3 : Int32) (x4 : Int64) (x6 : Int32) (h : Hp), K11 x0 x2 x3 x4 x6 h = some (r, hf) → V k rmX4_leastTerm 7 11 [(0, .long x0), (2, .int x2), (3, .int x3), (4, .long x4), (6, .int x6)] [] h) (x0 : Int64) (x2 : Int32) (x3 : Int32) (x4 : Int64) (x6 : Int32) (h : Hp) (hs : X4_leastTerm_b65 K11 x0 x2 x3 x4 x6 h = some (r, hf)) : V k rmX4_leastTerm 7 65 [(0, .long x0), (2, .int x2), (3, .int x3), (4, .long x4), (6, .int x6)] [] h := by
  unfold X4_leastTerm_b65 at hs
  refine V.iinc (pc := 65) C (j := 4) (v := (x6 + (1 : Int32))) (lv2 := [(6, .int (x6 + (1 : Int32))), (0, .long x0), (2, .int x2), (3, .int x3), (4, .long x4)]) dX4_leastTerm_65 rfl rfl (by decide) rfl ?_
  refine V.goto (pc := 68) C (tgt := 11) dX4_leastTerm_68 (by decide) ?_
  refine V.sub [1, 2, 3, 4, 0] rfl ?_
  exact hK11 _ _ _ _ _ _ hs
set_option maxRecDepth 20000 in
theorem tb_X4_leastTerm_41 {k : KX} (C : Cx k cX4_leastTerm RX4 7 rmX4_leastTerm) {r : Int64} {hf : Hp} (T : Rx k (some .long) (some (.long r)) hf) {K11 : Int64 → Int32 → Int32 → Int64 → Int32 → Hp → Option (Int64 × Hp)} (hK11 : ∀ (x0 : Int64) (x2 : Int32) (x3 : Int32) (x4 : Int64) (x6 : Int32) (h : Hp), K11 x0 x2 x3 x4 x6 h = some (r, hf) → V k rmX4_leastTerm 7 11 [(0, .long x0), (2, .int x2), (3, .int x3), (4, .long x4), (6, .int x6)] [] h) (x0 : Int64) (x2 : Int32) (x3 : Int32) (x4 : Int64) (x6 : Int32) (h : Hp) (hs : X4_leastTerm_b41 K11 x0 x2 x3 x4 x6 h = some (r, hf)) : V k rmX4_leastTerm 7 41 [(0, .long x0), (2, .int x2), (3, .int x3), (4, .long x4), (6, .int x6)] [] h := by
  unfold X4_leastTerm_b41 at hs
  refine V.lload_n (pc := 41) C dX4_leastTerm_41 0 rfl ?_
  refine V.ldc2 (pc := 42) C wf_515 dX4_leastTerm_42 ?_
  refine V.lrem (pc := 45) C dX4_leastTerm_45 (by decide) ?_
  refine V.lconst (pc := 46) C (v := (0 : Int64)) dX4_leastTerm_46 (by decide) ?_
  refine V.lcmp (pc := 47) C dX4_leastTerm_47 ?_
  refine V.if_ne (pc := 48) C (tgt := 65) dX4_leastTerm_48 (by decide) (fun c6 => ?_) (fun c6 => ?_)
  · have hs := o_el c6 hs
    refine V.sub [0, 1, 2, 3, 4] rfl ?_
    exact tb_X4_leastTerm_65 C T hK11 _ _ _ _ _ _ hs
  · have hs := o_if c6 hs
    refine V.lload_n (pc := 51) C dX4_leastTerm_51 0 rfl ?_
    refine V.ldc2 (pc := 52) C wf_515 dX4_leastTerm_52 ?_
    refine V.ldiv (pc := 55) C dX4_leastTerm_55 (by decide) ?_
    refine V.lstore_n (pc := 56) C (i := 0) (lv2 := [(0, .long (x0 / (5 : Int64))), (2, .int x2), (3, .int x3), (4, .long x4), (6, .int x6)]) dX4_leastTerm_56 rfl (by decide) rfl ?_
    refine V.lload (pc := 57) C dX4_leastTerm_57 3 rfl ?_
    refine V.ldc2 (pc := 59) C wf_515 dX4_leastTerm_59 ?_
    refine V.ldiv (pc := 62) C dX4_leastTerm_62 (by decide) ?_
    refine V.lstore (pc := 63) C (i := 4) (lv2 := [(4, .long (x4 / (5 : Int64))), (0, .long (x0 / (5 : Int64))), (2, .int x2), (3, .int x3), (6, .int x6)]) dX4_leastTerm_63 (by decide) rfl ?_
    refine V.sub [1, 2, 3, 0, 4] rfl ?_
    exact tb_X4_leastTerm_65 C T hK11 _ _ _ _ _ _ hs
set_option maxRecDepth 20000 in
theorem tb_X4_leastTerm_11 {k : KX} (C : Cx k cX4_leastTerm RX4 7 rmX4_leastTerm) {r : Int64} {hf : Hp} (T : Rx k (some .long) (some (.long r)) hf) {K11 : Int64 → Int32 → Int32 → Int64 → Int32 → Hp → Option (Int64 × Hp)} (hK11 : ∀ (x0 : Int64) (x2 : Int32) (x3 : Int32) (x4 : Int64) (x6 : Int32) (h : Hp), K11 x0 x2 x3 x4 x6 h = some (r, hf) → V k rmX4_leastTerm 7 11 [(0, .long x0), (2, .int x2), (3, .int x3), (4, .long x4), (6, .int x6)] [] h) (x0 : Int64) (x2 : Int32) (x3 : Int32) (x4 : Int64) (x6 : Int32) (h : Hp) (hs : X4_leastTerm_b11 K11 x0 x2 x3 x4 x6 h = some (r, hf)) : V k rmX4_leastTerm 7 11 [(0, .long x0), (2, .int x2), (3, .int x3), (4, .long x4), (6, .int x6)] [] h := by
  unfold X4_leastTerm_b11 at hs
  refine V.iload (pc := 11) C dX4_leastTerm_11 4 rfl ?_
  refine V.iload_n (pc := 13) C dX4_leastTerm_13 1 rfl ?_
  refine V.icmp_ge (pc := 14) C (tgt := 71) dX4_leastTerm_14 (by decide) (fun c3 => ?_) (fun c3 => ?_)
  · have hs := o_if c3 hs
    refine V.iload_n (pc := 71) C dX4_leastTerm_71 2 rfl ?_
    refine V.if_ne (pc := 72) C (tgt := 79) dX4_leastTerm_72 (by decide) (fun c4 => ?_) (fun c4 => ?_)
    · have hs := o_el c4 hs
      refine V.lload (pc := 79) C dX4_leastTerm_79 3 rfl ?_
      exact V.lret (pc := 81) C T hs dX4_leastTerm_81
    · have hs := o_if c4 hs
      refine V.lload_n (pc := 75) C dX4_leastTerm_75 0 rfl ?_
      refine V.goto (pc := 76) C (tgt := 81) dX4_leastTerm_76 (by decide) ?_
      exact V.lret (pc := 81) C T hs dX4_leastTerm_81
  · have hs := o_el c3 hs
    refine V.lload_n (pc := 17) C dX4_leastTerm_17 0 rfl ?_
    refine V.ldc2 (pc := 18) C wf_514 dX4_leastTerm_18 ?_
    refine V.lrem (pc := 21) C dX4_leastTerm_21 (by decide) ?_
    refine V.lconst (pc := 22) C (v := (0 : Int64)) dX4_leastTerm_22 (by decide) ?_
    refine V.lcmp (pc := 23) C dX4_leastTerm_23 ?_
    refine V.if_ne (pc := 24) C (tgt := 41) dX4_leastTerm_24 (by decide) (fun c5 => ?_) (fun c5 => ?_)
    · have hs := o_el c5 hs
      refine V.sub [0, 1, 2, 3, 4] rfl ?_
      exact tb_X4_leastTerm_41 C T hK11 _ _ _ _ _ _ hs
    · have hs := o_if c5 hs
      refine V.lload_n (pc := 27) C dX4_leastTerm_27 0 rfl ?_
      refine V.ldc2 (pc := 28) C wf_514 dX4_leastTerm_28 ?_
      refine V.ldiv (pc := 31) C dX4_leastTerm_31 (by decide) ?_
      refine V.lstore_n (pc := 32) C (i := 0) (lv2 := [(0, .long (x0 / (2 : Int64))), (2, .int x2), (3, .int x3), (4, .long x4), (6, .int x6)]) dX4_leastTerm_32 rfl (by decide) rfl ?_
      refine V.lload (pc := 33) C dX4_leastTerm_33 3 rfl ?_
      refine V.ldc2 (pc := 35) C wf_514 dX4_leastTerm_35 ?_
      refine V.ldiv (pc := 38) C dX4_leastTerm_38 (by decide) ?_
      refine V.lstore (pc := 39) C (i := 4) (lv2 := [(4, .long (x4 / (2 : Int64))), (0, .long (x0 / (2 : Int64))), (2, .int x2), (3, .int x3), (6, .int x6)]) dX4_leastTerm_39 (by decide) rfl ?_
      refine V.sub [1, 2, 3, 0, 4] rfl ?_
      exact tb_X4_leastTerm_41 C T hK11 _ _ _ _ _ _ hs
theorem tl_X4_leastTerm_11 {k : KX} (C : Cx k cX4_leastTerm RX4 7 rmX4_leastTerm) {r : Int64} {hf : Hp} (T : Rx k (some .long) (some (.long r)) hf) : ∀ (n : Nat) (x0 : Int64) (x2 : Int32) (x3 : Int32) (x4 : Int64) (x6 : Int32) (h : Hp), X4_leastTerm_l11 n x0 x2 x3 x4 x6 h = some (r, hf) → V k rmX4_leastTerm 7 11 [(0, .long x0), (2, .int x2), (3, .int x3), (4, .long x4), (6, .int x6)] [] h := by
  intro n
  induction n with
  | zero => intro x0 x2 x3 x4 x6 h hs; cases hs
  | succ n ih => intro x0 x2 x3 x4 x6 h hs; exact tb_X4_leastTerm_11 C T ih x0 x2 x3 x4 x6 h hs
set_option maxRecDepth 20000 in
theorem ct_X4_leastTerm (l : Launch) {x0 : Int64} {x2 : Int32} {x3 : Int32} {h hf : Hp} {r : Int64} (hs : X4_leastTerm x0 x2 x3 h = some (r, hf)) : Ct l yX4_leastTerm (Cond.code yX4_leastTerm cX4_leastTerm 7 (some .long) :: wsG) rmX4_leastTerm [.long x0, .int x2, .int x3] h (some (.long r)) hf := by
  refine Ct.of (by decide +kernel) (fun _ => Nat.le_of_ble_eq_true rfl) (fun k C T => ?_)
  unfold X4_leastTerm at hs
  show V k rmX4_leastTerm 7 0 [(0, .long x0), (2, .int x2), (3, .int x3)] [] h
  refine V.bipush (pc := 0) C (v := (10 : Int32)) dX4_leastTerm_0 (by decide) ?_
  refine V.iload_n (pc := 2) C dX4_leastTerm_2 1 rfl ?_
  obtain ⟨v2, h1, ch1, hs⟩ := o_b2 hs
  refine V.callS (pc := 3) C (rm := rmX4_power) (y := yX4_power) (bytes := cX4_power) (maxL := 5) (ret := (some .long)) (n := 2) (As := [.int (10 : Int32), .int x2]) (rest := []) (rv := (some (.long v2))) (h1 := h1) (st0 := [.int x2, .int (10 : Int32)]) (st2 := [.long v2]) (ct_X4_power (kL k) ch1) wf_508 wf_509 wf_49 wf_510 rfl rfl (by decide +kernel) ⟨by decide, by decide⟩ rfl (Nat.le_of_ble_eq_true rfl) dX4_leastTerm_3 rfl rfl ?_
  refine V.lstore (pc := 6) C (i := 4) (lv2 := [(4, .long v2), (0, .long x0), (2, .int x2), (3, .int x3)]) dX4_leastTerm_6 (by decide) rfl ?_
  refine V.iconst (pc := 8) C (v := (0 : Int32)) dX4_leastTerm_8 (by decide) ?_
  refine V.istore (pc := 9) C (i := 6) (lv2 := [(6, .int (0 : Int32)), (4, .long v2), (0, .long x0), (2, .int x2), (3, .int x3)]) dX4_leastTerm_9 (by decide) rfl ?_
  refine V.sub [2, 3, 4, 1, 0] rfl ?_
  exact tl_X4_leastTerm_11 C T fu _ _ _ _ _ _ hs
