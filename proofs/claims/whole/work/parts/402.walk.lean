abbrev rmX5_now : Room := { frames := 3, cells := 0, slots := 0, locals := 68 }
set_option maxRecDepth 20000 in
theorem ct_X5_now (l : Launch) {x1 : Int32} {h hf : Hp} {r : Int32} (hs : X5_now x1 h = some (r, hf)) : Ct l yX5_now (Cond.code yX5_now cX5_now 2 (some .int) :: wsG) rmX5_now [.ref 20, .int x1] h (some (.int r)) hf := by
  refine Ct.of (by decide +kernel) (fun _ => Nat.le_of_ble_eq_true rfl) (fun k C T => ?_)
  unfold X5_now at hs
  show V k rmX5_now 2 0 [(0, .ref 20), (1, .int x1)] [] h
  refine V.iload_n (pc := 0) C dX5_now_0 1 rfl ?_
  by_cases c12_0 : x1 = (0 : Int32)
  · have hs := o_if c12_0 hs
    refine V.tin (pc := 1) C (tgt := 44) (off := 43) dX5_now_1 c12_0 (by decide) (by decide) (by decide) (by decide) ?_
    refine V.aload_n (pc := 44) C dX5_now_44 0 rfl ?_
    refine V.getf (pc := 45) C (o := 20) (j := 14) (v := .ref 27) (by decide) rfl rfl inX5 (by decide) (by decide) wf_619 rfl dX5_now_45 ?_
    refine V.iload_n (pc := 48) C dX5_now_48 1 rfl ?_
    obtain ⟨v1, ev1, bv1, hs⟩ := o_ld hs
    refine V.iald (pc := 49) C (o := 27) (v := v1) (by decide) rfl rfl bv1 ev1 dX5_now_49 ?_
    exact V.iret (pc := 50) C T hs dX5_now_50
  have hs := o_el c12_0 hs
  by_cases c12_1 : x1 = (1 : Int32)
  · have hs := o_if c12_1 hs
    refine V.tin (pc := 1) C (tgt := 44) (off := 43) dX5_now_1 c12_1 (by decide) (by decide) (by decide) (by decide) ?_
    refine V.aload_n (pc := 44) C dX5_now_44 0 rfl ?_
    refine V.getf (pc := 45) C (o := 20) (j := 14) (v := .ref 27) (by decide) rfl rfl inX5 (by decide) (by decide) wf_619 rfl dX5_now_45 ?_
    refine V.iload_n (pc := 48) C dX5_now_48 1 rfl ?_
    obtain ⟨v2, ev2, bv2, hs⟩ := o_ld hs
    refine V.iald (pc := 49) C (o := 27) (v := v2) (by decide) rfl rfl bv2 ev2 dX5_now_49 ?_
    exact V.iret (pc := 50) C T hs dX5_now_50
  have hs := o_el c12_1 hs
  by_cases c12_2 : x1 = (2 : Int32)
  · have hs := o_if c12_2 hs
    refine V.tin (pc := 1) C (tgt := 44) (off := 43) dX5_now_1 c12_2 (by decide) (by decide) (by decide) (by decide) ?_
    refine V.aload_n (pc := 44) C dX5_now_44 0 rfl ?_
    refine V.getf (pc := 45) C (o := 20) (j := 14) (v := .ref 27) (by decide) rfl rfl inX5 (by decide) (by decide) wf_619 rfl dX5_now_45 ?_
    refine V.iload_n (pc := 48) C dX5_now_48 1 rfl ?_
    obtain ⟨v3, ev3, bv3, hs⟩ := o_ld hs
    refine V.iald (pc := 49) C (o := 27) (v := v3) (by decide) rfl rfl bv3 ev3 dX5_now_49 ?_
    exact V.iret (pc := 50) C T hs dX5_now_50
  have hs := o_el c12_2 hs
  by_cases c12_3 : x1 = (3 : Int32)
  · have hs := o_if c12_3 hs
    refine V.tin (pc := 1) C (tgt := 44) (off := 43) dX5_now_1 c12_3 (by decide) (by decide) (by decide) (by decide) ?_
    refine V.aload_n (pc := 44) C dX5_now_44 0 rfl ?_
    refine V.getf (pc := 45) C (o := 20) (j := 14) (v := .ref 27) (by decide) rfl rfl inX5 (by decide) (by decide) wf_619 rfl dX5_now_45 ?_
    refine V.iload_n (pc := 48) C dX5_now_48 1 rfl ?_
    obtain ⟨v4, ev4, bv4, hs⟩ := o_ld hs
    refine V.iald (pc := 49) C (o := 27) (v := v4) (by decide) rfl rfl bv4 ev4 dX5_now_49 ?_
    exact V.iret (pc := 50) C T hs dX5_now_50
  have hs := o_el c12_3 hs
  by_cases c12_4 : x1 = (4 : Int32)
  · have hs := o_if c12_4 hs
    refine V.tin (pc := 1) C (tgt := 44) (off := 43) dX5_now_1 c12_4 (by decide) (by decide) (by decide) (by decide) ?_
    refine V.aload_n (pc := 44) C dX5_now_44 0 rfl ?_
    refine V.getf (pc := 45) C (o := 20) (j := 14) (v := .ref 27) (by decide) rfl rfl inX5 (by decide) (by decide) wf_619 rfl dX5_now_45 ?_
    refine V.iload_n (pc := 48) C dX5_now_48 1 rfl ?_
    obtain ⟨v5, ev5, bv5, hs⟩ := o_ld hs
    refine V.iald (pc := 49) C (o := 27) (v := v5) (by decide) rfl rfl bv5 ev5 dX5_now_49 ?_
    exact V.iret (pc := 50) C T hs dX5_now_50
  have hs := o_el c12_4 hs
  by_cases c12_5 : x1 = (5 : Int32)
  · have hs := o_if c12_5 hs
    refine V.tin (pc := 1) C (tgt := 51) (off := 50) dX5_now_1 c12_5 (by decide) (by decide) (by decide) (by decide) ?_
    refine V.aload_n (pc := 51) C dX5_now_51 0 rfl ?_
    obtain ⟨v7, h6, ch6, hs⟩ := o_b2 hs
    refine V.callV (pc := 52) C (o := 20) (rm := rmX5_sense) (y := yX5_sense) (bytes := cX5_sense) (maxL := 3) (ret := (some .int)) (n := 0) (As := []) (rest := []) (rv := (some (.int v7))) (h1 := h6) (st0 := [.ref 20]) (st2 := [.int v7]) (by decide) rfl rfl (ct_X5_sense (kL k) ch6) wf_799 wf_801 wf_35 wf_54 wf_802 rfl rfl (by decide +kernel) ⟨by decide, by decide⟩ rfl (Nat.le_of_ble_eq_true rfl) dX5_now_52 rfl rfl ?_
    exact V.iret (pc := 55) C T hs dX5_now_55
  have hs := o_el c12_5 hs
  by_cases c12_6 : x1 = (6 : Int32)
  · have hs := o_if c12_6 hs
    refine V.tin (pc := 1) C (tgt := 56) (off := 55) dX5_now_1 c12_6 (by decide) (by decide) (by decide) (by decide) ?_
    refine V.aload_n (pc := 56) C dX5_now_56 0 rfl ?_
    refine V.aload_n (pc := 57) C dX5_now_57 0 rfl ?_
    obtain ⟨v9, h8, ch8, hs⟩ := o_b2 hs
    refine V.callV (pc := 58) C (o := 20) (rm := rmX5_sense) (y := yX5_sense) (bytes := cX5_sense) (maxL := 3) (ret := (some .int)) (n := 0) (As := []) (rest := [.ref 20]) (rv := (some (.int v9))) (h1 := h8) (st0 := [.ref 20, .ref 20]) (st2 := [.int v9, .ref 20]) (by decide) rfl rfl (ct_X5_sense (kL k) ch8) wf_799 wf_801 wf_35 wf_54 wf_802 rfl rfl (by decide +kernel) ⟨by decide, by decide⟩ rfl (Nat.le_of_ble_eq_true rfl) dX5_now_58 rfl rfl ?_
    refine V.iconst (pc := 61) C (v := (1 : Int32)) dX5_now_61 (by decide) ?_
    obtain ⟨v11, h10, ch10, hs⟩ := o_b2 hs
    refine V.callV (pc := 62) C (o := 20) (rm := rmX5_sumOf) (y := yX5_sumOf) (bytes := cX5_sumOf) (maxL := 5) (ret := (some .int)) (n := 2) (As := [.int v9, .int (1 : Int32)]) (rest := []) (rv := (some (.int v11))) (h1 := h10) (st0 := [.int (1 : Int32), .int v9, .ref 20]) (st2 := [.int v11]) (by decide) rfl rfl (ct_X5_sumOf (kL k) ch10) wf_807 wf_809 wf_37 wf_54 wf_810 rfl rfl (by decide +kernel) ⟨by decide, by decide⟩ rfl (Nat.le_of_ble_eq_true rfl) dX5_now_62 rfl rfl ?_
    exact V.iret (pc := 65) C T hs dX5_now_65
  have hs := o_el c12_6 hs
  have ic12_0 : (x1).toInt ≠ 0 := fun z => c12_0 (Int32.toInt_inj.mp z)
  have ic12_1 : (x1).toInt ≠ 1 := fun z => c12_1 (Int32.toInt_inj.mp z)
  have ic12_2 : (x1).toInt ≠ 2 := fun z => c12_2 (Int32.toInt_inj.mp z)
  have ic12_3 : (x1).toInt ≠ 3 := fun z => c12_3 (Int32.toInt_inj.mp z)
  have ic12_4 : (x1).toInt ≠ 4 := fun z => c12_4 (Int32.toInt_inj.mp z)
  have ic12_5 : (x1).toInt ≠ 5 := fun z => c12_5 (Int32.toInt_inj.mp z)
  have ic12_6 : (x1).toInt ≠ 6 := fun z => c12_6 (Int32.toInt_inj.mp z)
  refine V.tout (pc := 1) C (tgt := 66) dX5_now_1 (by omega) (by decide) ?_
  refine V.iconst (pc := 66) C (v := (-1 : Int32)) dX5_now_66 (by decide) ?_
  exact V.iret (pc := 67) C T hs dX5_now_67
abbrev rmX5_isSize : Room := { frames := 1, cells := 0, slots := 0, locals := 22 }
set_option maxRecDepth 20000 in
theorem ct_X5_isSize (l : Launch) {x1 : Int32} {h hf : Hp} {r : Int32} (hs : X5_isSize x1 h = some (r, hf)) : Ct l yX5_isSize (Cond.code yX5_isSize cX5_isSize 2 (some .boolean) :: wsG) rmX5_isSize [.ref 20, .int x1] h (some (.int r)) hf := by
  refine Ct.of (by decide +kernel) (fun _ => Nat.le_of_ble_eq_true rfl) (fun k C T => ?_)
  unfold X5_isSize at hs
  show V k rmX5_isSize 2 0 [(0, .ref 20), (1, .int x1)] [] h
  refine V.iload_n (pc := 0) C dX5_isSize_0 1 rfl ?_
  refine V.aload_n (pc := 1) C dX5_isSize_1 0 rfl ?_
  refine V.getf (pc := 2) C (o := 20) (j := 7) (v := .ref 26) (by decide) rfl rfl inX5 (by decide) (by decide) wf_612 rfl dX5_isSize_2 ?_
  refine V.iconst (pc := 5) C (v := (0 : Int32)) dX5_isSize_5 (by decide) ?_
  refine V.iald (pc := 6) C (o := 26) (v := (h.1 26 0)) (by decide) rfl rfl (by decide) rfl dX5_isSize_6 ?_
  refine V.iconst (pc := 7) C (v := (5 : Int32)) dX5_isSize_7 (by decide) ?_
  obtain ⟨v2, h1, ch1, hs⟩ := o_b2 hs
  refine V.callS (pc := 8) C (rm := rmX5_in) (y := yX5_in) (bytes := cX5_in) (maxL := 3) (ret := (some .boolean)) (n := 3) (As := [.int x1, .int (h.1 26 0), .int (5 : Int32)]) (rest := []) (rv := (some (.int v2))) (h1 := h1) (st0 := [.int (5 : Int32), .int (h.1 26 0), .int x1]) (st2 := [.int v2]) (ct_X5_in (kL k) ch1) wf_693 wf_694 wf_54 wf_695 rfl rfl (by decide +kernel) ⟨by decide, by decide⟩ rfl (Nat.le_of_ble_eq_true rfl) dX5_isSize_8 rfl rfl ?_
  obtain ⟨zz, hs⟩ := o_zb hs
  exact V.zret (pc := 11) C T zz hs dX5_isSize_11
abbrev rmX5_all : Room := { frames := 0, cells := 0, slots := 0, locals := 0 }
set_option maxRecDepth 20000 in
theorem ct_X5_all (l : Launch) {h hf : Hp} {r : Int32} (hs : X5_all h = some (r, hf)) : Ct l yX5_all (Cond.code yX5_all cX5_all 1 (some .int) :: wsG) rmX5_all [.ref 20] h (some (.int r)) hf := by
  refine Ct.of (by decide +kernel) (fun _ => Nat.le_of_ble_eq_true rfl) (fun k C T => ?_)
  unfold X5_all at hs
  show V k rmX5_all 1 0 [(0, .ref 20)] [] h
  refine V.iconst (pc := 0) C (v := (1 : Int32)) dX5_all_0 (by decide) ?_
  refine V.aload_n (pc := 1) C dX5_all_1 0 rfl ?_
  refine V.getf (pc := 2) C (o := 20) (j := 5) (v := .ref 24) (by decide) rfl rfl inX5 (by decide) (by decide) wf_610 rfl dX5_all_2 ?_
  refine V.iconst (pc := 5) C (v := (0 : Int32)) dX5_all_5 (by decide) ?_
  refine V.iald (pc := 6) C (o := 24) (v := (h.1 24 0)) (by decide) rfl rfl (by decide) rfl dX5_all_6 ?_
  refine V.ishl (pc := 7) C dX5_all_7 ?_
  refine V.iconst (pc := 8) C (v := (1 : Int32)) dX5_all_8 (by decide) ?_
  refine V.isub (pc := 9) C dX5_all_9 ?_
  exact V.iret (pc := 10) C T hs dX5_all_10
abbrev rmX5_allSizes : Room := { frames := 0, cells := 0, slots := 0, locals := 0 }
set_option maxRecDepth 20000 in
theorem tb_X5_allSizes_2 {k : KX} (C : Cx k cX5_allSizes RX5 3 rmX5_allSizes) {hf : Hp} (T : Rx k none none hf) {K2 : Int32 → Int32 → Hp → Option (Hp)} (hK2 : ∀ (x1 : Int32) (x2 : Int32) (h : Hp), K2 x1 x2 h = some hf → V k rmX5_allSizes 3 2 [(0, .ref 20), (1, .int x1), (2, .int x2)] [] h) (x1 : Int32) (x2 : Int32) (h : Hp) (hs : X5_allSizes_b2 K2 x1 x2 h = some hf) : V k rmX5_allSizes 3 2 [(0, .ref 20), (1, .int x1), (2, .int x2)] [] h := by
  unfold X5_allSizes_b2 at hs
  refine V.iload_n (pc := 2) C dX5_allSizes_2 2 rfl ?_
  refine V.bipush (pc := 3) C (v := (6 : Int32)) dX5_allSizes_3 (by decide) ?_
  refine V.icmp_ge (pc := 5) C (tgt := 21) dX5_allSizes_5 (by decide) (fun c1 => ?_) (fun c1 => ?_)
  · have hs := o_if c1 hs
    refine V.aload_n (pc := 21) C dX5_allSizes_21 0 rfl ?_
    refine V.iconst (pc := 22) C (v := (0 : Int32)) dX5_allSizes_22 (by decide) ?_
    refine V.put (pc := 23) C (o := 20) (j := 17) (v := (0 : Int32)) (by decide) rfl rfl inX5 (by decide) (by decide) wf_622 tyX5 tyX5_ok nmX5 rfl rfl rfl rfl dX5_allSizes_23 ?_
    refine V.aload_n (pc := 26) C dX5_allSizes_26 0 rfl ?_
    refine V.iconst (pc := 27) C (v := (0 : Int32)) dX5_allSizes_27 (by decide) ?_
    refine V.put (pc := 28) C (o := 20) (j := 18) (v := (0 : Int32)) (by decide) rfl rfl inX5 (by decide) (by decide) wf_623 tyX5 tyX5_ok nmX5 rfl rfl rfl rfl dX5_allSizes_28 ?_
    exact V.vret (pc := 31) C T hs dX5_allSizes_31
  · have hs := o_el c1 hs
    refine V.aload_n (pc := 8) C dX5_allSizes_8 0 rfl ?_
    refine V.getf (pc := 9) C (o := 20) (j := 16) (v := .ref 29) (by decide) rfl rfl inX5 (by decide) (by decide) wf_621 rfl dX5_allSizes_9 ?_
    refine V.iload_n (pc := 12) C dX5_allSizes_12 2 rfl ?_
    refine V.iload_n (pc := 13) C dX5_allSizes_13 1 rfl ?_
    obtain ⟨h2, eh2, bh2, hs⟩ := o_st hs
    refine V.iast (pc := 14) C (o := 29) (h2 := h2) (by decide) rfl rfl bh2 eh2 dX5_allSizes_14 ?_
    refine V.iinc (pc := 15) C (j := 2) (v := (x2 + (1 : Int32))) (lv2 := [(2, .int (x2 + (1 : Int32))), (0, .ref 20), (1, .int x1)]) dX5_allSizes_15 rfl rfl (by decide) rfl ?_
    refine V.goto (pc := 18) C (tgt := 2) dX5_allSizes_18 (by decide) ?_
    refine V.sub [1, 2, 0] rfl ?_
    exact hK2 _ _ _ hs
theorem tl_X5_allSizes_2 {k : KX} (C : Cx k cX5_allSizes RX5 3 rmX5_allSizes) {hf : Hp} (T : Rx k none none hf) : ∀ (n : Nat) (x1 : Int32) (x2 : Int32) (h : Hp), X5_allSizes_l2 n x1 x2 h = some hf → V k rmX5_allSizes 3 2 [(0, .ref 20), (1, .int x1), (2, .int x2)] [] h := by
  intro n
  induction n with
  | zero => intro x1 x2 h hs; cases hs
  | succ n ih => intro x1 x2 h hs; exact tb_X5_allSizes_2 C T ih x1 x2 h hs
set_option maxRecDepth 20000 in
theorem ct_X5_allSizes (l : Launch) {x1 : Int32} {h hf : Hp} (hs : X5_allSizes x1 h = some hf) : Ct l yX5_allSizes (Cond.code yX5_allSizes cX5_allSizes 3 none :: wsG) rmX5_allSizes [.ref 20, .int x1] h none hf := by
  refine Ct.of (by decide +kernel) (fun _ => Nat.le_of_ble_eq_true rfl) (fun k C T => ?_)
  unfold X5_allSizes at hs
  show V k rmX5_allSizes 3 0 [(0, .ref 20), (1, .int x1)] [] h
  refine V.iconst (pc := 0) C (v := (0 : Int32)) dX5_allSizes_0 (by decide) ?_
  refine V.istore_n (pc := 1) C (i := 2) (lv2 := [(2, .int (0 : Int32)), (0, .ref 20), (1, .int x1)]) dX5_allSizes_1 rfl (by decide) rfl ?_
  refine V.sub [1, 2, 0] rfl ?_
  exact tl_X5_allSizes_2 C T fu _ _ _ hs
abbrev rmX5_wideOf : Room := { frames := 0, cells := 0, slots := 0, locals := 0 }
set_option maxRecDepth 20000 in
theorem tb_X5_wideOf_24 {k : KX} (C : Cx k cX5_wideOf RX5 3 rmX5_wideOf) {r : Int32} {hf : Hp} (T : Rx k (some .int) (some (.int r)) hf) (s0 : Int32) (h : Hp) (hs : X5_wideOf_b24 s0 h = some (r, hf)) : V k rmX5_wideOf 3 24 [] [.int s0] h := by
  unfold X5_wideOf_b24 at hs
  refine V.istore_n (pc := 24) C (i := 2) (lv2 := [(2, .int s0)]) dX5_wideOf_24 rfl (by decide) rfl ?_
  refine V.iload_n (pc := 25) C dX5_wideOf_25 0 rfl ?_
  refine V.if_ge (pc := 26) C (tgt := 33) dX5_wideOf_26 (by decide) (fun c3 => ?_) (fun c3 => ?_)
  · have hs := o_if c3 hs
    refine V.iload_n (pc := 33) C dX5_wideOf_33 0 rfl ?_
    exact V.iret (pc := 34) C T hs dX5_wideOf_34
  · have hs := o_el c3 hs
    refine V.iconst (pc := 29) C (v := (0 : Int32)) dX5_wideOf_29 (by decide) ?_
    refine V.goto (pc := 30) C (tgt := 34) dX5_wideOf_30 (by decide) ?_
    exact V.iret (pc := 34) C T hs dX5_wideOf_34
set_option maxRecDepth 20000 in
theorem ct_X5_wideOf (l : Launch) {x1 : Int32} {h hf : Hp} {r : Int32} (hs : X5_wideOf x1 h = some (r, hf)) : Ct l yX5_wideOf (Cond.code yX5_wideOf cX5_wideOf 3 (some .int) :: wsG) rmX5_wideOf [.ref 20, .int x1] h (some (.int r)) hf := by
  refine Ct.of (by decide +kernel) (fun _ => Nat.le_of_ble_eq_true rfl) (fun k C T => ?_)
  unfold X5_wideOf at hs
  show V k rmX5_wideOf 3 0 [(0, .ref 20), (1, .int x1)] [] h
  refine V.iload_n (pc := 0) C dX5_wideOf_0 1 rfl ?_
  refine V.if_ne (pc := 1) C (tgt := 18) dX5_wideOf_1 (by decide) (fun c1 => ?_) (fun c1 => ?_)
  · have hs := o_el c1 hs
    refine V.aload_n (pc := 18) C dX5_wideOf_18 0 rfl ?_
    refine V.getf (pc := 19) C (o := 20) (j := 4) (v := .ref 23) (by decide) rfl rfl inX5 (by decide) (by decide) wf_609 rfl dX5_wideOf_19 ?_
    refine V.iload_n (pc := 22) C dX5_wideOf_22 1 rfl ?_
    obtain ⟨v2, ev2, bv2, hs⟩ := o_ld hs
    refine V.iald (pc := 23) C (o := 23) (v := v2) (by decide) rfl rfl bv2 ev2 dX5_wideOf_23 ?_
    refine V.sub [] rfl ?_
    exact tb_X5_wideOf_24 C T _ _ hs
  · have hs := o_if c1 hs
    refine V.aload_n (pc := 4) C dX5_wideOf_4 0 rfl ?_
    refine V.getf (pc := 5) C (o := 20) (j := 4) (v := .ref 23) (by decide) rfl rfl inX5 (by decide) (by decide) wf_609 rfl dX5_wideOf_5 ?_
    refine V.iconst (pc := 8) C (v := (0 : Int32)) dX5_wideOf_8 (by decide) ?_
    refine V.iald (pc := 9) C (o := 23) (v := (h.1 23 0)) (by decide) rfl rfl (by decide) rfl dX5_wideOf_9 ?_
    refine V.aload_n (pc := 10) C dX5_wideOf_10 0 rfl ?_
    refine V.getf (pc := 11) C (o := 20) (j := 17) (v := .int (h.1 20 17)) (by decide) rfl rfl inX5 (by decide) (by decide) wf_622 rfl dX5_wideOf_11 ?_
    refine V.isub (pc := 14) C dX5_wideOf_14 ?_
    refine V.goto (pc := 15) C (tgt := 24) dX5_wideOf_15 (by decide) ?_
    refine V.sub [] rfl ?_
    exact tb_X5_wideOf_24 C T _ _ hs
abbrev rmX5_fillBy : Room := { frames := 1, cells := 0, slots := 0, locals := 22 }
set_option maxRecDepth 20000 in
theorem tb_X5_fillBy_238 {k : KX} (C : Cx k cX5_fillBy RX5 7 rmX5_fillBy) {r : Int32} {hf : Hp} (T : Rx k (some .boolean) (some (.int r)) hf) {K44 : Int32 → Int32 → Int32 → Int32 → Int32 → Hp → Option (Int32 × Hp)} (hK44 : ∀ (x1 : Int32) (x2 : Int32) (x3 : Int32) (x4 : Int32) (x5 : Int32) (h : Hp), K44 x1 x2 x3 x4 x5 h = some (r, hf) → V k rmX5_fillBy 7 44 [(0, .ref 20), (1, .int x1), (2, .int x2), (3, .int x3), (4, .int x4), (5, .int x5)] [] h) (x1 : Int32) (x2 : Int32) (x3 : Int32) (x4 : Int32) (x5 : Int32) (h : Hp) (hs : X5_fillBy_b238 K44 x1 x2 x3 x4 x5 h = some (r, hf)) : V k rmX5_fillBy 7 238 [(0, .ref 20), (1, .int x1), (2, .int x2), (3, .int x3), (4, .int x4), (5, .int x5)] [] h := by
  unfold X5_fillBy_b238 at hs
  refine V.iinc (pc := 238) C (j := 5) (v := (x5 + (1 : Int32))) (lv2 := [(5, .int (x5 + (1 : Int32))), (0, .ref 20), (1, .int x1), (2, .int x2), (3, .int x3), (4, .int x4)]) dX5_fillBy_238 rfl rfl (by decide) rfl ?_
  refine V.goto (pc := 241) C (tgt := 44) dX5_fillBy_241 (by decide) ?_
  refine V.sub [1, 2, 3, 4, 5, 0] rfl ?_
  exact hK44 _ _ _ _ _ _ hs
set_option maxRecDepth 20000 in
theorem tb_X5_fillBy_210 {k : KX} (C : Cx k cX5_fillBy RX5 7 rmX5_fillBy) {r : Int32} {hf : Hp} (T : Rx k (some .boolean) (some (.int r)) hf) {K44 : Int32 → Int32 → Int32 → Int32 → Int32 → Hp → Option (Int32 × Hp)} (hK44 : ∀ (x1 : Int32) (x2 : Int32) (x3 : Int32) (x4 : Int32) (x5 : Int32) (h : Hp), K44 x1 x2 x3 x4 x5 h = some (r, hf) → V k rmX5_fillBy 7 44 [(0, .ref 20), (1, .int x1), (2, .int x2), (3, .int x3), (4, .int x4), (5, .int x5)] [] h) (x1 : Int32) (x2 : Int32) (x3 : Int32) (x4 : Int32) (x5 : Int32) (h : Hp) (hs : X5_fillBy_b210 K44 x1 x2 x3 x4 x5 h = some (r, hf)) : V k rmX5_fillBy 7 210 [(0, .ref 20), (1, .int x1), (2, .int x2), (3, .int x3), (4, .int x4), (5, .int x5)] [] h := by
  unfold X5_fillBy_b210 at hs
  refine V.aload_n (pc := 210) C dX5_fillBy_210 0 rfl ?_
  refine V.getf (pc := 211) C (o := 20) (j := 19) (v := .ref 30) (by decide) rfl rfl inX5 (by decide) (by decide) wf_624 rfl dX5_fillBy_211 ?_
  refine V.iload (pc := 214) C dX5_fillBy_214 5 rfl ?_
  refine V.iload_n (pc := 216) C dX5_fillBy_216 2 rfl ?_
  obtain ⟨h14, eh14, bh14, hs⟩ := o_st hs
  refine V.iast (pc := 217) C (o := 30) (h2 := h14) (by decide) rfl rfl bh14 eh14 dX5_fillBy_217 ?_
  refine V.aload_n (pc := 218) C dX5_fillBy_218 0 rfl ?_
  refine V.dup (pc := 219) C dX5_fillBy_219 rfl ?_
  refine V.getf (pc := 220) C (o := 20) (j := 20) (v := .int (h14.1 20 20)) (by decide) rfl rfl inX5 (by decide) (by decide) wf_625 rfl dX5_fillBy_220 ?_
  refine V.iconst (pc := 223) C (v := (1 : Int32)) dX5_fillBy_223 (by decide) ?_
  refine V.iadd (pc := 224) C dX5_fillBy_224 ?_
  refine V.put (pc := 225) C (o := 20) (j := 20) (v := ((h14.1 20 20) + (1 : Int32))) (by decide) rfl rfl inX5 (by decide) (by decide) wf_625 tyX5 tyX5_ok nmX5 rfl rfl rfl rfl dX5_fillBy_225 ?_
  refine V.aload_n (pc := 228) C dX5_fillBy_228 0 rfl ?_
  refine V.iload_n (pc := 229) C dX5_fillBy_229 2 rfl ?_
  refine V.put (pc := 230) C (o := 20) (j := 21) (v := x2) (by decide) rfl rfl inX5 (by decide) (by decide) wf_626 tyX5 tyX5_ok nmX5 rfl rfl rfl rfl dX5_fillBy_230 ?_
  refine V.aload_n (pc := 233) C dX5_fillBy_233 0 rfl ?_
  refine V.iload_n (pc := 234) C dX5_fillBy_234 3 rfl ?_
  refine V.put (pc := 235) C (o := 20) (j := 22) (v := x3) (by decide) rfl rfl inX5 (by decide) (by decide) wf_627 tyX5 tyX5_ok nmX5 rfl rfl rfl rfl dX5_fillBy_235 ?_
  refine V.sub [0, 1, 2, 3, 4, 5] rfl ?_
  exact tb_X5_fillBy_238 C T hK44 _ _ _ _ _ _ hs
set_option maxRecDepth 20000 in
theorem tb_X5_fillBy_179 {k : KX} (C : Cx k cX5_fillBy RX5 7 rmX5_fillBy) {r : Int32} {hf : Hp} (T : Rx k (some .boolean) (some (.int r)) hf) {K44 : Int32 → Int32 → Int32 → Int32 → Int32 → Hp → Option (Int32 × Hp)} (hK44 : ∀ (x1 : Int32) (x2 : Int32) (x3 : Int32) (x4 : Int32) (x5 : Int32) (h : Hp), K44 x1 x2 x3 x4 x5 h = some (r, hf) → V k rmX5_fillBy 7 44 [(0, .ref 20), (1, .int x1), (2, .int x2), (3, .int x3), (4, .int x4), (5, .int x5)] [] h) (x1 : Int32) (x2 : Int32) (x5 : Int32) (x6 : Int32) (h : Hp) (hs : X5_fillBy_b179 K44 x1 x2 x5 x6 h = some (r, hf)) : V k rmX5_fillBy 7 179 [(0, .ref 20), (1, .int x1), (2, .int x2), (5, .int x5), (6, .int x6)] [] h := by
  unfold X5_fillBy_b179 at hs
  refine V.iload_n (pc := 179) C dX5_fillBy_179 2 rfl ?_
  refine V.aload_n (pc := 180) C dX5_fillBy_180 0 rfl ?_
  refine V.getf (pc := 181) C (o := 20) (j := 3) (v := .ref 22) (by decide) rfl rfl inX5 (by decide) (by decide) wf_608 rfl dX5_fillBy_181 ?_
  refine V.iconst (pc := 184) C (v := (0 : Int32)) dX5_fillBy_184 (by decide) ?_
  refine V.iald (pc := 185) C (o := 22) (v := (h.1 22 0)) (by decide) rfl rfl (by decide) rfl dX5_fillBy_185 ?_
  refine V.icmp_lt (pc := 186) C (tgt := 191) dX5_fillBy_186 (by decide) (fun c20 => ?_) (fun c20 => ?_)
  · have hs := o_if c20 hs
    refine V.aload_n (pc := 191) C dX5_fillBy_191 0 rfl ?_
    refine V.iload_n (pc := 192) C dX5_fillBy_192 2 rfl ?_
    obtain ⟨v22, h21, ch21, hs⟩ := o_b2 hs
    refine V.callV (pc := 193) C (o := 20) (rm := rmX5_wideOf) (y := yX5_wideOf) (bytes := cX5_wideOf) (maxL := 3) (ret := (some .int)) (n := 1) (As := [.int x2]) (rest := []) (rv := (some (.int v22))) (h1 := h21) (st0 := [.int x2, .ref 20]) (st2 := [.int v22]) (by decide) rfl rfl (ct_X5_wideOf (kL k) ch21) wf_831 wf_833 wf_42 wf_54 wf_834 rfl rfl (by decide +kernel) ⟨by decide, by decide⟩ rfl (Nat.le_of_ble_eq_true rfl) dX5_fillBy_193 rfl rfl ?_
    refine V.iload (pc := 196) C dX5_fillBy_196 4 rfl ?_
    refine V.aload_n (pc := 198) C dX5_fillBy_198 0 rfl ?_
    refine V.getf (pc := 199) C (o := 20) (j := 16) (v := .ref 29) (by decide) rfl rfl inX5 (by decide) (by decide) wf_621 rfl dX5_fillBy_199 ?_
    refine V.iload_n (pc := 202) C dX5_fillBy_202 2 rfl ?_
    obtain ⟨v23, ev23, bv23, hs⟩ := o_ld hs
    refine V.iald (pc := 203) C (o := 29) (v := v23) (by decide) rfl rfl bv23 ev23 dX5_fillBy_203 ?_
    refine V.imul (pc := 204) C dX5_fillBy_204 ?_
    refine V.isub (pc := 205) C dX5_fillBy_205 ?_
    refine V.istore_n (pc := 206) C (i := 3) (lv2 := [(3, .int (v22 - (x6 * v23))), (0, .ref 20), (1, .int x1), (2, .int x2), (5, .int x5), (6, .int x6)]) dX5_fillBy_206 rfl (by decide) rfl ?_
    refine V.iconst (pc := 207) C (v := (0 : Int32)) dX5_fillBy_207 (by decide) ?_
    refine V.istore (pc := 208) C (i := 4) (lv2 := [(4, .int (0 : Int32)), (3, .int (v22 - (x6 * v23))), (0, .ref 20), (1, .int x1), (2, .int x2), (5, .int x5), (6, .int x6)]) dX5_fillBy_208 (by decide) rfl ?_
    refine V.sub [2, 3, 4, 1, 0, 5] rfl ?_
    exact tb_X5_fillBy_210 C T hK44 _ _ _ _ _ _ hs
  · have hs := o_el c20 hs
    refine V.iconst (pc := 189) C (v := (0 : Int32)) dX5_fillBy_189 (by decide) ?_
    exact V.zret (pc := 190) C T (by decide) hs dX5_fillBy_190
set_option maxRecDepth 20000 in
theorem tb_X5_fillBy_146 {k : KX} (C : Cx k cX5_fillBy RX5 7 rmX5_fillBy) {r : Int32} {hf : Hp} (T : Rx k (some .boolean) (some (.int r)) hf) {K44 : Int32 → Int32 → Int32 → Int32 → Int32 → Hp → Option (Int32 × Hp)} (hK44 : ∀ (x1 : Int32) (x2 : Int32) (x3 : Int32) (x4 : Int32) (x5 : Int32) (h : Hp), K44 x1 x2 x3 x4 x5 h = some (r, hf) → V k rmX5_fillBy 7 44 [(0, .ref 20), (1, .int x1), (2, .int x2), (3, .int x3), (4, .int x4), (5, .int x5)] [] h) {K146 : Int32 → Int32 → Int32 → Int32 → Hp → Option (Int32 × Hp)} (hK146 : ∀ (x1 : Int32) (x2 : Int32) (x5 : Int32) (x6 : Int32) (h : Hp), K146 x1 x2 x5 x6 h = some (r, hf) → V k rmX5_fillBy 7 146 [(0, .ref 20), (1, .int x1), (2, .int x2), (5, .int x5), (6, .int x6)] [] h) (x1 : Int32) (x2 : Int32) (x5 : Int32) (x6 : Int32) (h : Hp) (hs : X5_fillBy_b146 K44 K146 x1 x2 x5 x6 h = some (r, hf)) : V k rmX5_fillBy 7 146 [(0, .ref 20), (1, .int x1), (2, .int x2), (5, .int x5), (6, .int x6)] [] h := by
  unfold X5_fillBy_b146 at hs
  refine V.iload_n (pc := 146) C dX5_fillBy_146 2 rfl ?_
  refine V.aload_n (pc := 147) C dX5_fillBy_147 0 rfl ?_
  refine V.getf (pc := 148) C (o := 20) (j := 3) (v := .ref 22) (by decide) rfl rfl inX5 (by decide) (by decide) wf_608 rfl dX5_fillBy_148 ?_
  refine V.iconst (pc := 151) C (v := (0 : Int32)) dX5_fillBy_151 (by decide) ?_
  refine V.iald (pc := 152) C (o := 22) (v := (h.1 22 0)) (by decide) rfl rfl (by decide) rfl dX5_fillBy_152 ?_
  refine V.icmp_ge (pc := 153) C (tgt := 179) dX5_fillBy_153 (by decide) (fun c15 => ?_) (fun c15 => ?_)
  · have hs := o_if c15 hs
    refine V.sub [0, 1, 2, 3, 4] rfl ?_
    exact tb_X5_fillBy_179 C T hK44 _ _ _ _ _ hs
  · have hs := o_el c15 hs
    refine V.iload (pc := 156) C dX5_fillBy_156 4 rfl ?_
    refine V.aload_n (pc := 158) C dX5_fillBy_158 0 rfl ?_
    refine V.getf (pc := 159) C (o := 20) (j := 16) (v := .ref 29) (by decide) rfl rfl inX5 (by decide) (by decide) wf_621 rfl dX5_fillBy_159 ?_
    refine V.iload_n (pc := 162) C dX5_fillBy_162 2 rfl ?_
    obtain ⟨v16, ev16, bv16, hs⟩ := o_ld hs
    refine V.iald (pc := 163) C (o := 29) (v := v16) (by decide) rfl rfl bv16 ev16 dX5_fillBy_163 ?_
    refine V.imul (pc := 164) C dX5_fillBy_164 ?_
    refine V.aload_n (pc := 165) C dX5_fillBy_165 0 rfl ?_
    refine V.iload_n (pc := 166) C dX5_fillBy_166 2 rfl ?_
    obtain ⟨v18, h17, ch17, hs⟩ := o_b2 hs
    refine V.callV (pc := 167) C (o := 20) (rm := rmX5_wideOf) (y := yX5_wideOf) (bytes := cX5_wideOf) (maxL := 3) (ret := (some .int)) (n := 1) (As := [.int x2]) (rest := [.int (x6 * v16)]) (rv := (some (.int v18))) (h1 := h17) (st0 := [.int x2, .ref 20, .int (x6 * v16)]) (st2 := [.int v18, .int (x6 * v16)]) (by decide) rfl rfl (ct_X5_wideOf (kL k) ch17) wf_831 wf_833 wf_42 wf_54 wf_834 rfl rfl (by decide +kernel) ⟨by decide, by decide⟩ rfl (Nat.le_of_ble_eq_true rfl) dX5_fillBy_167 rfl rfl ?_
    refine V.icmp_le (pc := 170) C (tgt := 179) dX5_fillBy_170 (by decide) (fun c19 => ?_) (fun c19 => ?_)
    · have hs := o_if c19 hs
      refine V.sub [0, 1, 2, 3, 4] rfl ?_
      exact tb_X5_fillBy_179 C T hK44 _ _ _ _ _ hs
    · have hs := o_el c19 hs
      refine V.iinc (pc := 173) C (j := 2) (v := (x2 + (1 : Int32))) (lv2 := [(2, .int (x2 + (1 : Int32))), (0, .ref 20), (1, .int x1), (5, .int x5), (6, .int x6)]) dX5_fillBy_173 rfl rfl (by decide) rfl ?_
      refine V.goto (pc := 176) C (tgt := 146) dX5_fillBy_176 (by decide) ?_
      refine V.sub [1, 2, 0, 3, 4] rfl ?_
      exact hK146 _ _ _ _ _ hs
theorem tl_X5_fillBy_146 {k : KX} (C : Cx k cX5_fillBy RX5 7 rmX5_fillBy) {r : Int32} {hf : Hp} (T : Rx k (some .boolean) (some (.int r)) hf) {K44 : Int32 → Int32 → Int32 → Int32 → Int32 → Hp → Option (Int32 × Hp)} (hK44 : ∀ (x1 : Int32) (x2 : Int32) (x3 : Int32) (x4 : Int32) (x5 : Int32) (h : Hp), K44 x1 x2 x3 x4 x5 h = some (r, hf) → V k rmX5_fillBy 7 44 [(0, .ref 20), (1, .int x1), (2, .int x2), (3, .int x3), (4, .int x4), (5, .int x5)] [] h) : ∀ (n : Nat) (x1 : Int32) (x2 : Int32) (x5 : Int32) (x6 : Int32) (h : Hp), X5_fillBy_l146 K44 n x1 x2 x5 x6 h = some (r, hf) → V k rmX5_fillBy 7 146 [(0, .ref 20), (1, .int x1), (2, .int x2), (5, .int x5), (6, .int x6)] [] h := by
  intro n
  induction n with
  | zero => intro x1 x2 x5 x6 h hs; cases hs
  | succ n ih => intro x1 x2 x5 x6 h hs; exact tb_X5_fillBy_146 C T hK44 ih x1 x2 x5 x6 h hs
set_option maxRecDepth 20000 in
theorem tb_X5_fillBy_145 {k : KX} (C : Cx k cX5_fillBy RX5 7 rmX5_fillBy) {r : Int32} {hf : Hp} (T : Rx k (some .boolean) (some (.int r)) hf) {K44 : Int32 → Int32 → Int32 → Int32 → Int32 → Hp → Option (Int32 × Hp)} (hK44 : ∀ (x1 : Int32) (x2 : Int32) (x3 : Int32) (x4 : Int32) (x5 : Int32) (h : Hp), K44 x1 x2 x3 x4 x5 h = some (r, hf) → V k rmX5_fillBy 7 44 [(0, .ref 20), (1, .int x1), (2, .int x2), (3, .int x3), (4, .int x4), (5, .int x5)] [] h) (x1 : Int32) (x5 : Int32) (x6 : Int32) (s0 : Int32) (h : Hp) (hs : X5_fillBy_b145 K44 x1 x5 x6 s0 h = some (r, hf)) : V k rmX5_fillBy 7 145 [(0, .ref 20), (1, .int x1), (5, .int x5), (6, .int x6)] [.int s0] h := by
  unfold X5_fillBy_b145 at hs
  refine V.istore_n (pc := 145) C (i := 2) (lv2 := [(2, .int s0), (0, .ref 20), (1, .int x1), (5, .int x5), (6, .int x6)]) dX5_fillBy_145 rfl (by decide) rfl ?_
  refine V.sub [1, 2, 0, 3, 4] rfl ?_
  exact tl_X5_fillBy_146 C T hK44 fu _ _ _ _ _ hs
set_option maxRecDepth 20000 in
theorem tb_X5_fillBy_133 {k : KX} (C : Cx k cX5_fillBy RX5 7 rmX5_fillBy) {r : Int32} {hf : Hp} (T : Rx k (some .boolean) (some (.int r)) hf) {K44 : Int32 → Int32 → Int32 → Int32 → Int32 → Hp → Option (Int32 × Hp)} (hK44 : ∀ (x1 : Int32) (x2 : Int32) (x3 : Int32) (x4 : Int32) (x5 : Int32) (h : Hp), K44 x1 x2 x3 x4 x5 h = some (r, hf) → V k rmX5_fillBy 7 44 [(0, .ref 20), (1, .int x1), (2, .int x2), (3, .int x3), (4, .int x4), (5, .int x5)] [] h) (x1 : Int32) (x2 : Int32) (x4 : Int32) (x5 : Int32) (x6 : Int32) (h : Hp) (hs : X5_fillBy_b133 K44 x1 x2 x4 x5 x6 h = some (r, hf)) : V k rmX5_fillBy 7 133 [(0, .ref 20), (1, .int x1), (2, .int x2), (4, .int x4), (5, .int x5), (6, .int x6)] [] h := by
  unfold X5_fillBy_b133 at hs
  refine V.iload (pc := 133) C dX5_fillBy_133 3 rfl ?_
  refine V.if_eq (pc := 135) C (tgt := 142) dX5_fillBy_135 (by decide) (fun c13 => ?_) (fun c13 => ?_)
  · have hs := o_if c13 hs
    refine V.iload_n (pc := 142) C dX5_fillBy_142 2 rfl ?_
    refine V.iconst (pc := 143) C (v := (1 : Int32)) dX5_fillBy_143 (by decide) ?_
    refine V.iadd (pc := 144) C dX5_fillBy_144 ?_
    refine V.sub [0, 1, 4, 5] rfl ?_
    exact tb_X5_fillBy_145 C T hK44 _ _ _ _ _ hs
  · have hs := o_el c13 hs
    refine V.iload_n (pc := 138) C dX5_fillBy_138 2 rfl ?_
    refine V.goto (pc := 139) C (tgt := 145) dX5_fillBy_139 (by decide) ?_
    refine V.sub [0, 1, 4, 5] rfl ?_
    exact tb_X5_fillBy_145 C T hK44 _ _ _ _ _ hs
set_option maxRecDepth 20000 in
theorem tb_X5_fillBy_44 {k : KX} (C : Cx k cX5_fillBy RX5 7 rmX5_fillBy) {r : Int32} {hf : Hp} (T : Rx k (some .boolean) (some (.int r)) hf) {K44 : Int32 → Int32 → Int32 → Int32 → Int32 → Hp → Option (Int32 × Hp)} (hK44 : ∀ (x1 : Int32) (x2 : Int32) (x3 : Int32) (x4 : Int32) (x5 : Int32) (h : Hp), K44 x1 x2 x3 x4 x5 h = some (r, hf) → V k rmX5_fillBy 7 44 [(0, .ref 20), (1, .int x1), (2, .int x2), (3, .int x3), (4, .int x4), (5, .int x5)] [] h) (x1 : Int32) (x2 : Int32) (x3 : Int32) (x4 : Int32) (x5 : Int32) (h : Hp) (hs : X5_fillBy_b44 K44 x1 x2 x3 x4 x5 h = some (r, hf)) : V k rmX5_fillBy 7 44 [(0, .ref 20), (1, .int x1), (2, .int x2), (3, .int x3), (4, .int x4), (5, .int x5)] [] h := by
  unfold X5_fillBy_b44 at hs
  refine V.iload (pc := 44) C dX5_fillBy_44 5 rfl ?_
  refine V.aload_n (pc := 46) C dX5_fillBy_46 0 rfl ?_
  refine V.getf (pc := 47) C (o := 20) (j := 5) (v := .ref 24) (by decide) rfl rfl inX5 (by decide) (by decide) wf_610 rfl dX5_fillBy_47 ?_
  refine V.iconst (pc := 50) C (v := (0 : Int32)) dX5_fillBy_50 (by decide) ?_
  refine V.iald (pc := 51) C (o := 24) (v := (h.1 24 0)) (by decide) rfl rfl (by decide) rfl dX5_fillBy_51 ?_
  refine V.icmp_ge (pc := 52) C (tgt := 244) dX5_fillBy_52 (by decide) (fun c4 => ?_) (fun c4 => ?_)
  · have hs := o_if c4 hs
    refine V.iconst (pc := 244) C (v := (1 : Int32)) dX5_fillBy_244 (by decide) ?_
    exact V.zret (pc := 245) C T (by decide) hs dX5_fillBy_245
  · have hs := o_el c4 hs
    refine V.iload_n (pc := 55) C dX5_fillBy_55 1 rfl ?_
    refine V.iload (pc := 56) C dX5_fillBy_56 5 rfl ?_
    refine V.ishr (pc := 58) C dX5_fillBy_58 ?_
    refine V.iconst (pc := 59) C (v := (1 : Int32)) dX5_fillBy_59 (by decide) ?_
    refine V.iand (pc := 60) C dX5_fillBy_60 ?_
    refine V.iconst (pc := 61) C (v := (1 : Int32)) dX5_fillBy_61 (by decide) ?_
    refine V.icmp_ne (pc := 62) C (tgt := 238) dX5_fillBy_62 (by decide) (fun c5 => ?_) (fun c5 => ?_)
    · have hs := o_el c5 hs
      refine V.sub [0, 1, 2, 3, 4, 5] rfl ?_
      exact tb_X5_fillBy_238 C T hK44 _ _ _ _ _ _ hs
    · have hs := o_if c5 hs
      refine V.aload_n (pc := 65) C dX5_fillBy_65 0 rfl ?_
      refine V.iload (pc := 66) C dX5_fillBy_66 5 rfl ?_
      refine V.iconst (pc := 68) C (v := (0 : Int32)) dX5_fillBy_68 (by decide) ?_
      obtain ⟨v7, h6, ch6, hs⟩ := o_b2 hs
      refine V.callV (pc := 69) C (o := 20) (rm := rmX5_of) (y := yX5_of) (bytes := cX5_of) (maxL := 3) (ret := (some .int)) (n := 2) (As := [.int x5, .int (0 : Int32)]) (rest := []) (rv := (some (.int v7))) (h1 := h6) (st0 := [.int (0 : Int32), .int x5, .ref 20]) (st2 := [.int v7]) (by decide) rfl rfl (ct_X5_of (kL k) ch6) wf_744 wf_746 wf_30 wf_54 wf_747 rfl rfl (by decide +kernel) ⟨by decide, by decide⟩ rfl (Nat.le_of_ble_eq_true rfl) dX5_fillBy_69 rfl rfl ?_
      refine V.iconst (pc := 72) C (v := (2 : Int32)) dX5_fillBy_72 (by decide) ?_
      refine V.aload_n (pc := 73) C dX5_fillBy_73 0 rfl ?_
      refine V.getf (pc := 74) C (o := 20) (j := 18) (v := .int (h6.1 20 18)) (by decide) rfl rfl inX5 (by decide) (by decide) wf_623 rfl dX5_fillBy_74 ?_
      refine V.iload (pc := 77) C dX5_fillBy_77 5 rfl ?_
      refine V.ishr (pc := 79) C dX5_fillBy_79 ?_
      refine V.iconst (pc := 80) C (v := (1 : Int32)) dX5_fillBy_80 (by decide) ?_
      refine V.iand (pc := 81) C dX5_fillBy_81 ?_
      refine V.imul (pc := 82) C dX5_fillBy_82 ?_
      refine V.iadd (pc := 83) C dX5_fillBy_83 ?_
      refine V.istore (pc := 84) C (i := 6) (lv2 := [(6, .int (v7 + ((2 : Int32) * (((h6.1 20 18) >>> (x5 &&& 31)) &&& (1 : Int32))))), (0, .ref 20), (1, .int x1), (2, .int x2), (3, .int x3), (4, .int x4), (5, .int x5)]) dX5_fillBy_84 (by decide) rfl ?_
      refine V.iload_n (pc := 86) C dX5_fillBy_86 3 rfl ?_
      refine V.aload_n (pc := 87) C dX5_fillBy_87 1 rfl ?_
      refine V.getf (pc := 88) C (o := 20) (j := 3) (v := .ref 22) (by decide) rfl rfl inX5 (by decide) (by decide) wf_608 rfl dX5_fillBy_88 ?_
      refine V.iconst (pc := 91) C (v := (0 : Int32)) dX5_fillBy_91 (by decide) ?_
      refine V.iald (pc := 92) C (o := 22) (v := (h6.1 22 0)) (by decide) rfl rfl (by decide) rfl dX5_fillBy_92 ?_
      refine V.icmp_ge (pc := 93) C (tgt := 133) dX5_fillBy_93 (by decide) (fun c8 => ?_) (fun c8 => ?_)
      · have hs := o_if c8 hs
        refine V.sub [1, 2, 3, 5, 6, 0] rfl ?_
        exact tb_X5_fillBy_133 C T hK44 _ _ _ _ _ _ hs
      · have hs := o_el c8 hs
        refine V.iload (pc := 96) C dX5_fillBy_96 5 rfl ?_
        refine V.if_ne (pc := 98) C (tgt := 133) dX5_fillBy_98 (by decide) (fun c9 => ?_) (fun c9 => ?_)
        · have hs := o_el c9 hs
          refine V.sub [1, 2, 3, 5, 6, 0] rfl ?_
          exact tb_X5_fillBy_133 C T hK44 _ _ _ _ _ _ hs
        · have hs := o_if c9 hs
          refine V.iload (pc := 101) C dX5_fillBy_101 0 rfl ?_
          refine V.iconst (pc := 103) C (v := (1 : Int32)) dX5_fillBy_103 (by decide) ?_
          refine V.iadd (pc := 104) C dX5_fillBy_104 ?_
          refine V.aload_n (pc := 105) C dX5_fillBy_105 1 rfl ?_
          refine V.getf (pc := 106) C (o := 20) (j := 16) (v := .ref 29) (by decide) rfl rfl inX5 (by decide) (by decide) wf_621 rfl dX5_fillBy_106 ?_
          refine V.iload_n (pc := 109) C dX5_fillBy_109 3 rfl ?_
          obtain ⟨v10, ev10, bv10, hs⟩ := o_ld hs
          refine V.iald (pc := 110) C (o := 29) (v := v10) (by decide) rfl rfl bv10 ev10 dX5_fillBy_110 ?_
          refine V.imul (pc := 111) C dX5_fillBy_111 ?_
          refine V.iload_n (pc := 112) C dX5_fillBy_112 4 rfl ?_
          refine V.icmp_gt (pc := 113) C (tgt := 133) dX5_fillBy_113 (by decide) (fun c11 => ?_) (fun c11 => ?_)
          · have hs := o_if c11 hs
            refine V.sub [1, 2, 3, 5, 6, 0] rfl ?_
            exact tb_X5_fillBy_133 C T hK44 _ _ _ _ _ _ hs
          · have hs := o_el c11 hs
            refine V.iload_n (pc := 116) C dX5_fillBy_116 4 rfl ?_
            refine V.iload (pc := 117) C dX5_fillBy_117 0 rfl ?_
            refine V.iconst (pc := 119) C (v := (1 : Int32)) dX5_fillBy_119 (by decide) ?_
            refine V.iadd (pc := 120) C dX5_fillBy_120 ?_
            refine V.aload_n (pc := 121) C dX5_fillBy_121 1 rfl ?_
            refine V.getf (pc := 122) C (o := 20) (j := 16) (v := .ref 29) (by decide) rfl rfl inX5 (by decide) (by decide) wf_621 rfl dX5_fillBy_122 ?_
            refine V.iload_n (pc := 125) C dX5_fillBy_125 3 rfl ?_
            obtain ⟨v12, ev12, bv12, hs⟩ := o_ld hs
            refine V.iald (pc := 126) C (o := 29) (v := v12) (by decide) rfl rfl bv12 ev12 dX5_fillBy_126 ?_
            refine V.imul (pc := 127) C dX5_fillBy_127 ?_
            refine V.isub (pc := 128) C dX5_fillBy_128 ?_
            refine V.istore_n (pc := 129) C (i := 3) (lv2 := [(3, .int (x3 - (((v7 + ((2 : Int32) * (((h6.1 20 18) >>> (x5 &&& 31)) &&& (1 : Int32)))) + (1 : Int32)) * v12))), (6, .int (v7 + ((2 : Int32) * (((h6.1 20 18) >>> (x5 &&& 31)) &&& (1 : Int32))))), (0, .ref 20), (1, .int x1), (2, .int x2), (4, .int x4), (5, .int x5)]) dX5_fillBy_129 rfl (by decide) rfl ?_
            refine V.goto (pc := 130) C (tgt := 210) dX5_fillBy_130 (by decide) ?_
            refine V.sub [2, 3, 4, 0, 5, 6] rfl ?_
            exact tb_X5_fillBy_210 C T hK44 _ _ _ _ _ _ hs
theorem tl_X5_fillBy_44 {k : KX} (C : Cx k cX5_fillBy RX5 7 rmX5_fillBy) {r : Int32} {hf : Hp} (T : Rx k (some .boolean) (some (.int r)) hf) : ∀ (n : Nat) (x1 : Int32) (x2 : Int32) (x3 : Int32) (x4 : Int32) (x5 : Int32) (h : Hp), X5_fillBy_l44 n x1 x2 x3 x4 x5 h = some (r, hf) → V k rmX5_fillBy 7 44 [(0, .ref 20), (1, .int x1), (2, .int x2), (3, .int x3), (4, .int x4), (5, .int x5)] [] h := by
  intro n
  induction n with
  | zero => intro x1 x2 x3 x4 x5 h hs; cases hs
  | succ n ih => intro x1 x2 x3 x4 x5 h hs; exact tb_X5_fillBy_44 C T ih x1 x2 x3 x4 x5 h hs
set_option maxRecDepth 20000 in
theorem tb_X5_fillBy_37 {k : KX} (C : Cx k cX5_fillBy RX5 7 rmX5_fillBy) {r : Int32} {hf : Hp} (T : Rx k (some .boolean) (some (.int r)) hf) (x1 : Int32) (x2 : Int32) (s0 : Int32) (h : Hp) (hs : X5_fillBy_b37 x1 x2 s0 h = some (r, hf)) : V k rmX5_fillBy 7 37 [(0, .ref 20), (1, .int x1), (2, .int x2)] [.int s0] h := by
  unfold X5_fillBy_b37 at hs
  refine V.istore_n (pc := 37) C (i := 3) (lv2 := [(3, .int s0), (0, .ref 20), (1, .int x1), (2, .int x2)]) dX5_fillBy_37 rfl (by decide) rfl ?_
  refine V.iconst (pc := 38) C (v := (1 : Int32)) dX5_fillBy_38 (by decide) ?_
  refine V.istore (pc := 39) C (i := 4) (lv2 := [(4, .int (1 : Int32)), (3, .int s0), (0, .ref 20), (1, .int x1), (2, .int x2)]) dX5_fillBy_39 (by decide) rfl ?_
  refine V.iconst (pc := 41) C (v := (0 : Int32)) dX5_fillBy_41 (by decide) ?_
  refine V.istore (pc := 42) C (i := 5) (lv2 := [(5, .int (0 : Int32)), (4, .int (1 : Int32)), (3, .int s0), (0, .ref 20), (1, .int x1), (2, .int x2)]) dX5_fillBy_42 (by decide) rfl ?_
  refine V.sub [3, 4, 5, 2, 1, 0] rfl ?_
  exact tl_X5_fillBy_44 C T fu _ _ _ _ _ _ hs
set_option maxRecDepth 20000 in
theorem ct_X5_fillBy (l : Launch) {x1 : Int32} {h hf : Hp} {r : Int32} (hs : X5_fillBy x1 h = some (r, hf)) : Ct l yX5_fillBy (Cond.code yX5_fillBy cX5_fillBy 7 (some .boolean) :: wsG) rmX5_fillBy [.ref 20, .int x1] h (some (.int r)) hf := by
  refine Ct.of (by decide +kernel) (fun _ => Nat.le_of_ble_eq_true rfl) (fun k C T => ?_)
  unfold X5_fillBy at hs
  show V k rmX5_fillBy 7 0 [(0, .ref 20), (1, .int x1)] [] h
  refine V.aload_n (pc := 0) C dX5_fillBy_0 0 rfl ?_
  refine V.iconst (pc := 1) C (v := (0 : Int32)) dX5_fillBy_1 (by decide) ?_
  refine V.put (pc := 2) C (o := 20) (j := 20) (v := (0 : Int32)) (by decide) rfl rfl inX5 (by decide) (by decide) wf_625 tyX5 tyX5_ok nmX5 rfl rfl rfl rfl dX5_fillBy_2 ?_
  refine V.aload_n (pc := 5) C dX5_fillBy_5 0 rfl ?_
  refine V.bipush (pc := 6) C (v := (-9 : Int32)) dX5_fillBy_6 (by decide) ?_
  refine V.put (pc := 8) C (o := 20) (j := 21) (v := (-9 : Int32)) (by decide) rfl rfl inX5 (by decide) (by decide) wf_626 tyX5 tyX5_ok nmX5 rfl rfl rfl rfl dX5_fillBy_8 ?_
  refine V.aload_n (pc := 11) C dX5_fillBy_11 0 rfl ?_
  refine V.bipush (pc := 12) C (v := (-9 : Int32)) dX5_fillBy_12 (by decide) ?_
  refine V.put (pc := 14) C (o := 20) (j := 22) (v := (-9 : Int32)) (by decide) rfl rfl inX5 (by decide) (by decide) wf_627 tyX5 tyX5_ok nmX5 rfl rfl rfl rfl dX5_fillBy_14 ?_
  refine V.iconst (pc := 17) C (v := (0 : Int32)) dX5_fillBy_17 (by decide) ?_
  refine V.istore_n (pc := 18) C (i := 2) (lv2 := [(2, .int (0 : Int32)), (0, .ref 20), (1, .int x1)]) dX5_fillBy_18 rfl (by decide) rfl ?_
  refine V.aload_n (pc := 19) C dX5_fillBy_19 1 rfl ?_
  refine V.getf (pc := 20) C (o := 20) (j := 3) (v := .ref 22) (by decide) rfl rfl inX5 (by decide) (by decide) wf_608 rfl dX5_fillBy_20 ?_
  refine V.iconst (pc := 23) C (v := (0 : Int32)) dX5_fillBy_23 (by decide) ?_
  refine V.iald (pc := 24) C (o := 22) (v := (h.1 22 0)) (by decide) rfl rfl (by decide) rfl dX5_fillBy_24 ?_
  refine V.if_le (pc := 25) C (tgt := 36) dX5_fillBy_25 (by decide) (fun c1 => ?_) (fun c1 => ?_)
  · have hs := o_if c1 hs
    refine V.iconst (pc := 36) C (v := (0 : Int32)) dX5_fillBy_36 (by decide) ?_
    refine V.sub [1, 2, 0] rfl ?_
    exact tb_X5_fillBy_37 C T _ _ _ _ hs
  · have hs := o_el c1 hs
    refine V.aload_n (pc := 28) C dX5_fillBy_28 1 rfl ?_
    refine V.iconst (pc := 29) C (v := (0 : Int32)) dX5_fillBy_29 (by decide) ?_
    obtain ⟨v3, h2, ch2, hs⟩ := o_b2 hs
    refine V.callV (pc := 30) C (o := 20) (rm := rmX5_wideOf) (y := yX5_wideOf) (bytes := cX5_wideOf) (maxL := 3) (ret := (some .int)) (n := 1) (As := [.int (0 : Int32)]) (rest := []) (rv := (some (.int v3))) (h1 := h2) (st0 := [.int (0 : Int32), .ref 20]) (st2 := [.int v3]) (by decide) rfl rfl (ct_X5_wideOf (kL k) ch2) wf_831 wf_833 wf_42 wf_54 wf_834 rfl rfl (by decide +kernel) ⟨by decide, by decide⟩ rfl (Nat.le_of_ble_eq_true rfl) dX5_fillBy_30 rfl rfl ?_
    refine V.goto (pc := 33) C (tgt := 37) dX5_fillBy_33 (by decide) ?_
    refine V.sub [1, 2, 0] rfl ?_
    exact tb_X5_fillBy_37 C T _ _ _ _ hs
abbrev rmX5_fill : Room := { frames := 2, cells := 0, slots := 0, locals := 48 }
set_option maxRecDepth 20000 in
theorem ct_X5_fill (l : Launch) {x1 : Int32} {x2 : Int32} {x3 : Int32} {h hf : Hp} {r : Int32} (hs : X5_fill x1 x2 x3 h = some (r, hf)) : Ct l yX5_fill (Cond.code yX5_fill cX5_fill 4 (some .int) :: wsG) rmX5_fill [.ref 20, .int x1, .int x2, .int x3] h (some (.int r)) hf := by
  refine Ct.of (by decide +kernel) (fun _ => Nat.le_of_ble_eq_true rfl) (fun k C T => ?_)
  unfold X5_fill at hs
  show V k rmX5_fill 4 0 [(0, .ref 20), (1, .int x1), (2, .int x2), (3, .int x3)] [] h
  refine V.aload_n (pc := 0) C dX5_fill_0 0 rfl ?_
  refine V.iload_n (pc := 1) C dX5_fill_1 1 rfl ?_
  obtain ⟨v2, h1, ch1, hs⟩ := o_b2 hs
  refine V.callV (pc := 2) C (o := 20) (rm := rmX5_isSize) (y := yX5_isSize) (bytes := cX5_isSize) (maxL := 2) (ret := (some .boolean)) (n := 1) (As := [.int x1]) (rest := []) (rv := (some (.int v2))) (h1 := h1) (st0 := [.int x1, .ref 20]) (st2 := [.int v2]) (by decide) rfl rfl (ct_X5_isSize (kL k) ch1) wf_815 wf_817 wf_38 wf_54 wf_818 rfl rfl (by decide +kernel) ⟨by decide, by decide⟩ rfl (Nat.le_of_ble_eq_true rfl) dX5_fill_2 rfl rfl ?_
  refine V.if_eq (pc := 5) C (tgt := 29) dX5_fill_5 (by decide) (fun c3 => ?_) (fun c3 => ?_)
  · have hs := o_if c3 hs
    refine V.iconst (pc := 29) C (v := (-1 : Int32)) dX5_fill_29 (by decide) ?_
    exact V.iret (pc := 30) C T hs dX5_fill_30
  · have hs := o_el c3 hs
    refine V.iload_n (pc := 8) C dX5_fill_8 2 rfl ?_
    refine V.iconst (pc := 9) C (v := (0 : Int32)) dX5_fill_9 (by decide) ?_
    refine V.aload_n (pc := 10) C dX5_fill_10 0 rfl ?_
    obtain ⟨v5, h4, ch4, hs⟩ := o_b2 hs
    refine V.callV (pc := 11) C (o := 20) (rm := rmX5_all) (y := yX5_all) (bytes := cX5_all) (maxL := 1) (ret := (some .int)) (n := 0) (As := []) (rest := [.int (0 : Int32), .int x2]) (rv := (some (.int v5))) (h1 := h4) (st0 := [.ref 20, .int (0 : Int32), .int x2]) (st2 := [.int v5, .int (0 : Int32), .int x2]) (by decide) rfl rfl (ct_X5_all (kL k) ch4) wf_819 wf_821 wf_39 wf_54 wf_822 rfl rfl (by decide +kernel) ⟨by decide, by decide⟩ rfl (Nat.le_of_ble_eq_true rfl) dX5_fill_11 rfl rfl ?_
    obtain ⟨v7, h6, ch6, hs⟩ := o_b2 hs
    refine V.callS (pc := 14) C (rm := rmX5_in) (y := yX5_in) (bytes := cX5_in) (maxL := 3) (ret := (some .boolean)) (n := 3) (As := [.int x2, .int (0 : Int32), .int v5]) (rest := []) (rv := (some (.int v7))) (h1 := h6) (st0 := [.int v5, .int (0 : Int32), .int x2]) (st2 := [.int v7]) (ct_X5_in (kL k) ch6) wf_693 wf_694 wf_54 wf_695 rfl rfl (by decide +kernel) ⟨by decide, by decide⟩ rfl (Nat.le_of_ble_eq_true rfl) dX5_fill_14 rfl rfl ?_
    refine V.if_eq (pc := 17) C (tgt := 29) dX5_fill_17 (by decide) (fun c8 => ?_) (fun c8 => ?_)
    · have hs := o_if c8 hs
      refine V.iconst (pc := 29) C (v := (-1 : Int32)) dX5_fill_29 (by decide) ?_
      exact V.iret (pc := 30) C T hs dX5_fill_30
    · have hs := o_el c8 hs
      refine V.iload_n (pc := 20) C dX5_fill_20 3 rfl ?_
      refine V.iconst (pc := 21) C (v := (0 : Int32)) dX5_fill_21 (by decide) ?_
      refine V.iconst (pc := 22) C (v := (1 : Int32)) dX5_fill_22 (by decide) ?_
      obtain ⟨v10, h9, ch9, hs⟩ := o_b2 hs
      refine V.callS (pc := 23) C (rm := rmX5_in) (y := yX5_in) (bytes := cX5_in) (maxL := 3) (ret := (some .boolean)) (n := 3) (As := [.int x3, .int (0 : Int32), .int (1 : Int32)]) (rest := []) (rv := (some (.int v10))) (h1 := h9) (st0 := [.int (1 : Int32), .int (0 : Int32), .int x3]) (st2 := [.int v10]) (ct_X5_in (kL k) ch9) wf_693 wf_694 wf_54 wf_695 rfl rfl (by decide +kernel) ⟨by decide, by decide⟩ rfl (Nat.le_of_ble_eq_true rfl) dX5_fill_23 rfl rfl ?_
      refine V.if_ne (pc := 26) C (tgt := 31) dX5_fill_26 (by decide) (fun c11 => ?_) (fun c11 => ?_)
      · have hs := o_el c11 hs
        refine V.aload_n (pc := 31) C dX5_fill_31 0 rfl ?_
        refine V.iload_n (pc := 32) C dX5_fill_32 1 rfl ?_
        obtain ⟨h12, ch12, hs⟩ := o_bind hs
        refine V.callV (pc := 33) C (o := 20) (rm := rmX5_allSizes) (y := yX5_allSizes) (bytes := cX5_allSizes) (maxL := 3) (ret := none) (n := 1) (As := [.int x1]) (rest := []) (rv := none) (h1 := h12) (st0 := [.int x1, .ref 20]) (st2 := []) (by decide) rfl rfl (ct_X5_allSizes (kL k) ch12) wf_823 wf_825 wf_40 wf_54 wf_826 rfl rfl (by decide +kernel) ⟨by decide, by decide⟩ rfl (Nat.le_of_ble_eq_true rfl) dX5_fill_33 rfl rfl ?_
        refine V.aload_n (pc := 36) C dX5_fill_36 0 rfl ?_
        refine V.iload_n (pc := 37) C dX5_fill_37 2 rfl ?_
        obtain ⟨v14, h13, ch13, hs⟩ := o_b2 hs
        refine V.callV (pc := 38) C (o := 20) (rm := rmX5_fillBy) (y := yX5_fillBy) (bytes := cX5_fillBy) (maxL := 7) (ret := (some .boolean)) (n := 1) (As := [.int x2]) (rest := []) (rv := (some (.int v14))) (h1 := h13) (st0 := [.int x2, .ref 20]) (st2 := [.int v14]) (by decide) rfl rfl (ct_X5_fillBy (kL k) ch13) wf_827 wf_829 wf_41 wf_54 wf_830 rfl rfl (by decide +kernel) ⟨by decide, by decide⟩ rfl (Nat.le_of_ble_eq_true rfl) dX5_fill_38 rfl rfl ?_
        refine V.if_ne (pc := 41) C (tgt := 47) dX5_fill_41 (by decide) (fun c15 => ?_) (fun c15 => ?_)
        · have hs := o_el c15 hs
          refine V.iload_n (pc := 47) C dX5_fill_47 3 rfl ?_
          refine V.if_ne (pc := 48) C (tgt := 58) dX5_fill_48 (by decide) (fun c16 => ?_) (fun c16 => ?_)
          · have hs := o_el c16 hs
            refine V.aload_n (pc := 58) C dX5_fill_58 0 rfl ?_
            refine V.getf (pc := 59) C (o := 20) (j := 22) (v := .int (h13.1 20 22)) (by decide) rfl rfl inX5 (by decide) (by decide) wf_627 rfl dX5_fill_59 ?_
            exact V.iret (pc := 62) C T hs dX5_fill_62
          · have hs := o_if c16 hs
            refine V.aload_n (pc := 51) C dX5_fill_51 0 rfl ?_
            refine V.getf (pc := 52) C (o := 20) (j := 21) (v := .int (h13.1 20 21)) (by decide) rfl rfl inX5 (by decide) (by decide) wf_626 rfl dX5_fill_52 ?_
            refine V.goto (pc := 55) C (tgt := 62) dX5_fill_55 (by decide) ?_
            exact V.iret (pc := 62) C T hs dX5_fill_62
        · have hs := o_if c15 hs
          refine V.bipush (pc := 44) C (v := (-9 : Int32)) dX5_fill_44 (by decide) ?_
          exact V.iret (pc := 46) C T hs dX5_fill_46
      · have hs := o_if c11 hs
        refine V.iconst (pc := 29) C (v := (-1 : Int32)) dX5_fill_29 (by decide) ?_
        exact V.iret (pc := 30) C T hs dX5_fill_30
abbrev rmX5_goesOn : Room := { frames := 2, cells := 0, slots := 0, locals := 48 }
set_option maxRecDepth 20000 in
theorem ct_X5_goesOn (l : Launch) {x1 : Int32} {x2 : Int32} {h hf : Hp} {r : Int32} (hs : X5_goesOn x1 x2 h = some (r, hf)) : Ct l yX5_goesOn (Cond.code yX5_goesOn cX5_goesOn 3 (some .boolean) :: wsG) rmX5_goesOn [.ref 20, .int x1, .int x2] h (some (.int r)) hf := by
  refine Ct.of (by decide +kernel) (fun _ => Nat.le_of_ble_eq_true rfl) (fun k C T => ?_)
  unfold X5_goesOn at hs
  show V k rmX5_goesOn 3 0 [(0, .ref 20), (1, .int x1), (2, .int x2)] [] h
  refine V.aload_n (pc := 0) C dX5_goesOn_0 0 rfl ?_
  refine V.iload_n (pc := 1) C dX5_goesOn_1 1 rfl ?_
  obtain ⟨h1, ch1, hs⟩ := o_bind hs
  refine V.callV (pc := 2) C (o := 20) (rm := rmX5_allSizes) (y := yX5_allSizes) (bytes := cX5_allSizes) (maxL := 3) (ret := none) (n := 1) (As := [.int x1]) (rest := []) (rv := none) (h1 := h1) (st0 := [.int x1, .ref 20]) (st2 := []) (by decide) rfl rfl (ct_X5_allSizes (kL k) ch1) wf_823 wf_825 wf_40 wf_54 wf_826 rfl rfl (by decide +kernel) ⟨by decide, by decide⟩ rfl (Nat.le_of_ble_eq_true rfl) dX5_goesOn_2 rfl rfl ?_
  refine V.aload_n (pc := 5) C dX5_goesOn_5 0 rfl ?_
  refine V.iload_n (pc := 6) C dX5_goesOn_6 2 rfl ?_
  obtain ⟨v3, h2, ch2, hs⟩ := o_b2 hs
  refine V.callV (pc := 7) C (o := 20) (rm := rmX5_fillBy) (y := yX5_fillBy) (bytes := cX5_fillBy) (maxL := 7) (ret := (some .boolean)) (n := 1) (As := [.int x2]) (rest := []) (rv := (some (.int v3))) (h1 := h2) (st0 := [.int x2, .ref 20]) (st2 := [.int v3]) (by decide) rfl rfl (ct_X5_fillBy (kL k) ch2) wf_827 wf_829 wf_41 wf_54 wf_830 rfl rfl (by decide +kernel) ⟨by decide, by decide⟩ rfl (Nat.le_of_ble_eq_true rfl) dX5_goesOn_7 rfl rfl ?_
  obtain ⟨zz, hs⟩ := o_zb hs
  exact V.zret (pc := 10) C T zz hs dX5_goesOn_10
abbrev rmX5_greatest : Room := { frames := 3, cells := 0, slots := 0, locals := 70 }
set_option maxRecDepth 20000 in
theorem tb_X5_greatest_2 {k : KX} (C : Cx k cX5_greatest RX5 2 rmX5_greatest) {r : Int32} {hf : Hp} (T : Rx k (some .int) (some (.int r)) hf) {K2 : Int32 → Hp → Option (Int32 × Hp)} (hK2 : ∀ (x1 : Int32) (h : Hp), K2 x1 h = some (r, hf) → V k rmX5_greatest 2 2 [(0, .ref 20), (1, .int x1)] [] h) (x1 : Int32) (h : Hp) (hs : X5_greatest_b2 K2 x1 h = some (r, hf)) : V k rmX5_greatest 2 2 [(0, .ref 20), (1, .int x1)] [] h := by
  unfold X5_greatest_b2 at hs
  refine V.iload_n (pc := 2) C dX5_greatest_2 1 rfl ?_
  refine V.aload_n (pc := 3) C dX5_greatest_3 0 rfl ?_
  refine V.getf (pc := 4) C (o := 20) (j := 7) (v := .ref 26) (by decide) rfl rfl inX5 (by decide) (by decide) wf_612 rfl dX5_greatest_4 ?_
  refine V.iconst (pc := 7) C (v := (0 : Int32)) dX5_greatest_7 (by decide) ?_
  refine V.iald (pc := 8) C (o := 26) (v := (h.1 26 0)) (by decide) rfl rfl (by decide) rfl dX5_greatest_8 ?_
  refine V.icmp_lt (pc := 9) C (tgt := 32) dX5_greatest_9 (by decide) (fun c1 => ?_) (fun c1 => ?_)
  · have hs := o_if c1 hs
    refine V.bipush (pc := 32) C (v := (-9 : Int32)) dX5_greatest_32 (by decide) ?_
    exact V.iret (pc := 34) C T hs dX5_greatest_34
  · have hs := o_el c1 hs
    refine V.aload_n (pc := 12) C dX5_greatest_12 0 rfl ?_
    refine V.iload_n (pc := 13) C dX5_greatest_13 1 rfl ?_
    refine V.aload_n (pc := 14) C dX5_greatest_14 0 rfl ?_
    obtain ⟨v3, h2, ch2, hs⟩ := o_b2 hs
    refine V.callV (pc := 15) C (o := 20) (rm := rmX5_all) (y := yX5_all) (bytes := cX5_all) (maxL := 1) (ret := (some .int)) (n := 0) (As := []) (rest := [.int x1, .ref 20]) (rv := (some (.int v3))) (h1 := h2) (st0 := [.ref 20, .int x1, .ref 20]) (st2 := [.int v3, .int x1, .ref 20]) (by decide) rfl rfl (ct_X5_all (kL k) ch2) wf_819 wf_821 wf_39 wf_54 wf_822 rfl rfl (by decide +kernel) ⟨by decide, by decide⟩ rfl (Nat.le_of_ble_eq_true rfl) dX5_greatest_15 rfl rfl ?_
    obtain ⟨v5, h4, ch4, hs⟩ := o_b2 hs
    refine V.callV (pc := 18) C (o := 20) (rm := rmX5_goesOn) (y := yX5_goesOn) (bytes := cX5_goesOn) (maxL := 3) (ret := (some .boolean)) (n := 2) (As := [.int x1, .int v3]) (rest := []) (rv := (some (.int v5))) (h1 := h4) (st0 := [.int v3, .int x1, .ref 20]) (st2 := [.int v5]) (by decide) rfl rfl (ct_X5_goesOn (kL k) ch4) wf_839 wf_841 wf_43 wf_54 wf_842 rfl rfl (by decide +kernel) ⟨by decide, by decide⟩ rfl (Nat.le_of_ble_eq_true rfl) dX5_greatest_18 rfl rfl ?_
    refine V.if_eq (pc := 21) C (tgt := 26) dX5_greatest_21 (by decide) (fun c6 => ?_) (fun c6 => ?_)
    · have hs := o_if c6 hs
      refine V.iinc (pc := 26) C (j := 1) (v := (x1 + (-1 : Int32))) (lv2 := [(1, .int (x1 + (-1 : Int32))), (0, .ref 20)]) dX5_greatest_26 rfl rfl (by decide) rfl ?_
      refine V.goto (pc := 29) C (tgt := 2) dX5_greatest_29 (by decide) ?_
      refine V.sub [1, 0] rfl ?_
      exact hK2 _ _ hs
    · have hs := o_el c6 hs
      refine V.iload_n (pc := 24) C dX5_greatest_24 1 rfl ?_
      exact V.iret (pc := 25) C T hs dX5_greatest_25
theorem tl_X5_greatest_2 {k : KX} (C : Cx k cX5_greatest RX5 2 rmX5_greatest) {r : Int32} {hf : Hp} (T : Rx k (some .int) (some (.int r)) hf) : ∀ (n : Nat) (x1 : Int32) (h : Hp), X5_greatest_l2 n x1 h = some (r, hf) → V k rmX5_greatest 2 2 [(0, .ref 20), (1, .int x1)] [] h := by
  intro n
  induction n with
  | zero => intro x1 h hs; cases hs
  | succ n ih => intro x1 h hs; exact tb_X5_greatest_2 C T ih x1 h hs
set_option maxRecDepth 20000 in
theorem ct_X5_greatest (l : Launch) {h hf : Hp} {r : Int32} (hs : X5_greatest h = some (r, hf)) : Ct l yX5_greatest (Cond.code yX5_greatest cX5_greatest 2 (some .int) :: wsG) rmX5_greatest [.ref 20] h (some (.int r)) hf := by
  refine Ct.of (by decide +kernel) (fun _ => Nat.le_of_ble_eq_true rfl) (fun k C T => ?_)
  unfold X5_greatest at hs
  show V k rmX5_greatest 2 0 [(0, .ref 20)] [] h
  refine V.iconst (pc := 0) C (v := (5 : Int32)) dX5_greatest_0 (by decide) ?_
  refine V.istore_n (pc := 1) C (i := 1) (lv2 := [(1, .int (5 : Int32)), (0, .ref 20)]) dX5_greatest_1 rfl (by decide) rfl ?_
  refine V.sub [1, 0] rfl ?_
  exact tl_X5_greatest_2 C T fu _ _ hs
abbrev rmX5_costOf : Room := { frames := 0, cells := 0, slots := 0, locals := 0 }
set_option maxRecDepth 20000 in
theorem tb_X5_costOf_131 {k : KX} (C : Cx k cX5_costOf RX5 6 rmX5_costOf) {r : Int32} {hf : Hp} (T : Rx k (some .int) (some (.int r)) hf) {K51 : Int32 → Int32 → Hp → Option (Int32 × Hp)} (hK51 : ∀ (x3 : Int32) (x4 : Int32) (h : Hp), K51 x3 x4 h = some (r, hf) → V k rmX5_costOf 6 51 [(0, .ref 20), (3, .int x3), (4, .int x4)] [] h) (x3 : Int32) (x4 : Int32) (s0 : Int32) (h : Hp) (hs : X5_costOf_b131 K51 x3 x4 s0 h = some (r, hf)) : V k rmX5_costOf 6 131 [(0, .ref 20), (3, .int x3), (4, .int x4)] [.int s0] h := by
  unfold X5_costOf_b131 at hs
  refine V.istore (pc := 131) C (i := 5) (lv2 := [(5, .int s0), (0, .ref 20), (3, .int x3), (4, .int x4)]) dX5_costOf_131 (by decide) rfl ?_
  refine V.iload_n (pc := 133) C dX5_costOf_133 2 rfl ?_
  refine V.iload (pc := 134) C dX5_costOf_134 0 rfl ?_
  refine V.iload (pc := 136) C dX5_costOf_136 0 rfl ?_
  refine V.imul (pc := 138) C dX5_costOf_138 ?_
  refine V.iadd (pc := 139) C dX5_costOf_139 ?_
  refine V.istore_n (pc := 140) C (i := 3) (lv2 := [(3, .int (x3 + (s0 * s0))), (5, .int s0), (0, .ref 20), (4, .int x4)]) dX5_costOf_140 rfl (by decide) rfl ?_
  refine V.iinc (pc := 141) C (j := 3) (v := (x4 + (1 : Int32))) (lv2 := [(4, .int (x4 + (1 : Int32))), (3, .int (x3 + (s0 * s0))), (5, .int s0), (0, .ref 20)]) dX5_costOf_141 rfl rfl (by decide) rfl ?_
  refine V.goto (pc := 144) C (tgt := 51) dX5_costOf_144 (by decide) ?_
  refine V.sub [3, 1, 0] rfl ?_
  exact hK51 _ _ _ hs
set_option maxRecDepth 20000 in
theorem tb_X5_costOf_105 {k : KX} (C : Cx k cX5_costOf RX5 6 rmX5_costOf) {r : Int32} {hf : Hp} (T : Rx k (some .int) (some (.int r)) hf) {K51 : Int32 → Int32 → Hp → Option (Int32 × Hp)} (hK51 : ∀ (x3 : Int32) (x4 : Int32) (h : Hp), K51 x3 x4 h = some (r, hf) → V k rmX5_costOf 6 51 [(0, .ref 20), (3, .int x3), (4, .int x4)] [] h) (x3 : Int32) (x4 : Int32) (h : Hp) (hs : X5_costOf_b105 K51 x3 x4 h = some (r, hf)) : V k rmX5_costOf 6 105 [(0, .ref 20), (3, .int x3), (4, .int x4)] [] h := by
  unfold X5_costOf_b105 at hs
  refine V.iload (pc := 105) C dX5_costOf_105 2 rfl ?_
  refine V.if_ne (pc := 107) C (tgt := 114) dX5_costOf_107 (by decide) (fun c10 => ?_) (fun c10 => ?_)
  · have hs := o_el c10 hs
    refine V.aload_n (pc := 114) C dX5_costOf_114 0 rfl ?_
    refine V.getf (pc := 115) C (o := 20) (j := 16) (v := .ref 29) (by decide) rfl rfl inX5 (by decide) (by decide) wf_621 rfl dX5_costOf_115 ?_
    refine V.iload (pc := 118) C dX5_costOf_118 2 rfl ?_
    refine V.iconst (pc := 120) C (v := (1 : Int32)) dX5_costOf_120 (by decide) ?_
    refine V.isub (pc := 121) C dX5_costOf_121 ?_
    obtain ⟨v11, ev11, bv11, hs⟩ := o_ld hs
    refine V.iald (pc := 122) C (o := 29) (v := v11) (by decide) rfl rfl bv11 ev11 dX5_costOf_122 ?_
    refine V.aload_n (pc := 123) C dX5_costOf_123 0 rfl ?_
    refine V.getf (pc := 124) C (o := 20) (j := 16) (v := .ref 29) (by decide) rfl rfl inX5 (by decide) (by decide) wf_621 rfl dX5_costOf_124 ?_
    refine V.iload (pc := 127) C dX5_costOf_127 2 rfl ?_
    obtain ⟨v12, ev12, bv12, hs⟩ := o_ld hs
    refine V.iald (pc := 129) C (o := 29) (v := v12) (by decide) rfl rfl bv12 ev12 dX5_costOf_129 ?_
    refine V.isub (pc := 130) C dX5_costOf_130 ?_
    refine V.sub [0, 1, 2] rfl ?_
    exact tb_X5_costOf_131 C T hK51 _ _ _ _ hs
  · have hs := o_if c10 hs
    refine V.iconst (pc := 110) C (v := (0 : Int32)) dX5_costOf_110 (by decide) ?_
    refine V.goto (pc := 111) C (tgt := 131) dX5_costOf_111 (by decide) ?_
    refine V.sub [0, 1, 2] rfl ?_
    exact tb_X5_costOf_131 C T hK51 _ _ _ _ hs
set_option maxRecDepth 20000 in
theorem tb_X5_costOf_51 {k : KX} (C : Cx k cX5_costOf RX5 6 rmX5_costOf) {r : Int32} {hf : Hp} (T : Rx k (some .int) (some (.int r)) hf) {K51 : Int32 → Int32 → Hp → Option (Int32 × Hp)} (hK51 : ∀ (x3 : Int32) (x4 : Int32) (h : Hp), K51 x3 x4 h = some (r, hf) → V k rmX5_costOf 6 51 [(0, .ref 20), (3, .int x3), (4, .int x4)] [] h) (x3 : Int32) (x4 : Int32) (h : Hp) (hs : X5_costOf_b51 K51 x3 x4 h = some (r, hf)) : V k rmX5_costOf 6 51 [(0, .ref 20), (3, .int x3), (4, .int x4)] [] h := by
  unfold X5_costOf_b51 at hs
  refine V.iload (pc := 51) C dX5_costOf_51 2 rfl ?_
  refine V.aload_n (pc := 53) C dX5_costOf_53 0 rfl ?_
  refine V.getf (pc := 54) C (o := 20) (j := 3) (v := .ref 22) (by decide) rfl rfl inX5 (by decide) (by decide) wf_608 rfl dX5_costOf_54 ?_
  refine V.iconst (pc := 57) C (v := (0 : Int32)) dX5_costOf_57 (by decide) ?_
  refine V.iald (pc := 58) C (o := 22) (v := (h.1 22 0)) (by decide) rfl rfl (by decide) rfl dX5_costOf_58 ?_
  refine V.icmp_ge (pc := 59) C (tgt := 147) dX5_costOf_59 (by decide) (fun c3 => ?_) (fun c3 => ?_)
  · have hs := o_if c3 hs
    refine V.iload_n (pc := 147) C dX5_costOf_147 1 rfl ?_
    exact V.iret (pc := 148) C T hs dX5_costOf_148
  · have hs := o_el c3 hs
    refine V.aload_n (pc := 62) C dX5_costOf_62 0 rfl ?_
    refine V.getf (pc := 63) C (o := 20) (j := 16) (v := .ref 29) (by decide) rfl rfl inX5 (by decide) (by decide) wf_621 rfl dX5_costOf_63 ?_
    refine V.iload (pc := 66) C dX5_costOf_66 2 rfl ?_
    obtain ⟨v4, ev4, bv4, hs⟩ := o_ld hs
    refine V.iald (pc := 68) C (o := 29) (v := v4) (by decide) rfl rfl bv4 ev4 dX5_costOf_68 ?_
    refine V.aload_n (pc := 69) C dX5_costOf_69 0 rfl ?_
    refine V.getf (pc := 70) C (o := 20) (j := 7) (v := .ref 26) (by decide) rfl rfl inX5 (by decide) (by decide) wf_612 rfl dX5_costOf_70 ?_
    refine V.iconst (pc := 73) C (v := (0 : Int32)) dX5_costOf_73 (by decide) ?_
    refine V.iald (pc := 74) C (o := 26) (v := (h.1 26 0)) (by decide) rfl rfl (by decide) rfl dX5_costOf_74 ?_
    refine V.icmp_lt (pc := 75) C (tgt := 102) dX5_costOf_75 (by decide) (fun c5 => ?_) (fun c5 => ?_)
    · have hs := o_if c5 hs
      refine V.bipush (pc := 102) C (v := (-9 : Int32)) dX5_costOf_102 (by decide) ?_
      exact V.iret (pc := 104) C T hs dX5_costOf_104
    · have hs := o_el c5 hs
      refine V.iload (pc := 78) C dX5_costOf_78 2 rfl ?_
      refine V.if_le (pc := 80) C (tgt := 105) dX5_costOf_80 (by decide) (fun c6 => ?_) (fun c6 => ?_)
      · have hs := o_if c6 hs
        refine V.sub [0, 1, 2] rfl ?_
        exact tb_X5_costOf_105 C T hK51 _ _ _ hs
      · have hs := o_el c6 hs
        refine V.aload_n (pc := 83) C dX5_costOf_83 0 rfl ?_
        refine V.getf (pc := 84) C (o := 20) (j := 16) (v := .ref 29) (by decide) rfl rfl inX5 (by decide) (by decide) wf_621 rfl dX5_costOf_84 ?_
        refine V.iload (pc := 87) C dX5_costOf_87 2 rfl ?_
        obtain ⟨v7, ev7, bv7, hs⟩ := o_ld hs
        refine V.iald (pc := 89) C (o := 29) (v := v7) (by decide) rfl rfl bv7 ev7 dX5_costOf_89 ?_
        refine V.aload_n (pc := 90) C dX5_costOf_90 0 rfl ?_
        refine V.getf (pc := 91) C (o := 20) (j := 16) (v := .ref 29) (by decide) rfl rfl inX5 (by decide) (by decide) wf_621 rfl dX5_costOf_91 ?_
        refine V.iload (pc := 94) C dX5_costOf_94 2 rfl ?_
        refine V.iconst (pc := 96) C (v := (1 : Int32)) dX5_costOf_96 (by decide) ?_
        refine V.isub (pc := 97) C dX5_costOf_97 ?_
        obtain ⟨v8, ev8, bv8, hs⟩ := o_ld hs
        refine V.iald (pc := 98) C (o := 29) (v := v8) (by decide) rfl rfl bv8 ev8 dX5_costOf_98 ?_
        refine V.icmp_le (pc := 99) C (tgt := 105) dX5_costOf_99 (by decide) (fun c9 => ?_) (fun c9 => ?_)
        · have hs := o_if c9 hs
          refine V.sub [0, 1, 2] rfl ?_
          exact tb_X5_costOf_105 C T hK51 _ _ _ hs
        · have hs := o_el c9 hs
          refine V.bipush (pc := 102) C (v := (-9 : Int32)) dX5_costOf_102 (by decide) ?_
          exact V.iret (pc := 104) C T hs dX5_costOf_104
theorem tl_X5_costOf_51 {k : KX} (C : Cx k cX5_costOf RX5 6 rmX5_costOf) {r : Int32} {hf : Hp} (T : Rx k (some .int) (some (.int r)) hf) : ∀ (n : Nat) (x3 : Int32) (x4 : Int32) (h : Hp), X5_costOf_l51 n x3 x4 h = some (r, hf) → V k rmX5_costOf 6 51 [(0, .ref 20), (3, .int x3), (4, .int x4)] [] h := by
  intro n
  induction n with
  | zero => intro x3 x4 h hs; cases hs
  | succ n ih => intro x3 x4 h hs; exact tb_X5_costOf_51 C T ih x3 x4 h hs
set_option maxRecDepth 20000 in
theorem tb_X5_costOf_11 {k : KX} (C : Cx k cX5_costOf RX5 6 rmX5_costOf) {r : Int32} {hf : Hp} (T : Rx k (some .int) (some (.int r)) hf) {K11 : Int32 → Int32 → Hp → Option (Int32 × Hp)} (hK11 : ∀ (x2 : Int32) (x3 : Int32) (h : Hp), K11 x2 x3 h = some (r, hf) → V k rmX5_costOf 6 11 [(0, .ref 20), (2, .int x2), (3, .int x3)] [] h) (x2 : Int32) (x3 : Int32) (h : Hp) (hs : X5_costOf_b11 K11 x2 x3 h = some (r, hf)) : V k rmX5_costOf 6 11 [(0, .ref 20), (2, .int x2), (3, .int x3)] [] h := by
  unfold X5_costOf_b11 at hs
  refine V.iload_n (pc := 11) C dX5_costOf_11 2 rfl ?_
  refine V.if_lt (pc := 12) C (tgt := 36) dX5_costOf_12 (by decide) (fun c1 => ?_) (fun c1 => ?_)
  · have hs := o_if c1 hs
    refine V.aload_n (pc := 36) C dX5_costOf_36 0 rfl ?_
    refine V.iconst (pc := 37) C (v := (0 : Int32)) dX5_costOf_37 (by decide) ?_
    refine V.put (pc := 38) C (o := 20) (j := 17) (v := (0 : Int32)) (by decide) rfl rfl inX5 (by decide) (by decide) wf_622 tyX5 tyX5_ok nmX5 rfl rfl rfl rfl dX5_costOf_38 ?_
    refine V.aload_n (pc := 41) C dX5_costOf_41 0 rfl ?_
    refine V.iconst (pc := 42) C (v := (0 : Int32)) dX5_costOf_42 (by decide) ?_
    refine V.put (pc := 43) C (o := 20) (j := 18) (v := (0 : Int32)) (by decide) rfl rfl inX5 (by decide) (by decide) wf_623 tyX5 tyX5_ok nmX5 rfl rfl rfl rfl dX5_costOf_43 ?_
    refine V.iconst (pc := 46) C (v := (0 : Int32)) dX5_costOf_46 (by decide) ?_
    refine V.istore_n (pc := 47) C (i := 3) (lv2 := [(3, .int (0 : Int32)), (0, .ref 20), (2, .int x2)]) dX5_costOf_47 rfl (by decide) rfl ?_
    refine V.iconst (pc := 48) C (v := (0 : Int32)) dX5_costOf_48 (by decide) ?_
    refine V.istore (pc := 49) C (i := 4) (lv2 := [(4, .int (0 : Int32)), (3, .int (0 : Int32)), (0, .ref 20), (2, .int x2)]) dX5_costOf_49 (by decide) rfl ?_
    refine V.sub [2, 1, 0] rfl ?_
    exact tl_X5_costOf_51 C T fu _ _ _ hs
  · have hs := o_el c1 hs
    refine V.aload_n (pc := 15) C dX5_costOf_15 0 rfl ?_
    refine V.getf (pc := 16) C (o := 20) (j := 16) (v := .ref 29) (by decide) rfl rfl inX5 (by decide) (by decide) wf_621 rfl dX5_costOf_16 ?_
    refine V.iload_n (pc := 19) C dX5_costOf_19 2 rfl ?_
    refine V.iconst (pc := 20) C (v := (5 : Int32)) dX5_costOf_20 (by decide) ?_
    refine V.iload_n (pc := 21) C dX5_costOf_21 1 rfl ?_
    refine V.iconst (pc := 22) C (v := (5 : Int32)) dX5_costOf_22 (by decide) ?_
    refine V.irem (pc := 23) C dX5_costOf_23 (by decide) ?_
    refine V.isub (pc := 24) C dX5_costOf_24 ?_
    obtain ⟨h2, eh2, bh2, hs⟩ := o_st hs
    refine V.iast (pc := 25) C (o := 29) (h2 := h2) (by decide) rfl rfl bh2 eh2 dX5_costOf_25 ?_
    refine V.iload_n (pc := 26) C dX5_costOf_26 1 rfl ?_
    refine V.iconst (pc := 27) C (v := (5 : Int32)) dX5_costOf_27 (by decide) ?_
    refine V.idiv (pc := 28) C dX5_costOf_28 (by decide) ?_
    refine V.istore_n (pc := 29) C (i := 2) (lv2 := [(2, .int (x2 / (5 : Int32))), (0, .ref 20), (3, .int x3)]) dX5_costOf_29 rfl (by decide) rfl ?_
    refine V.iinc (pc := 30) C (j := 2) (v := (x3 + (-1 : Int32))) (lv2 := [(3, .int (x3 + (-1 : Int32))), (2, .int (x2 / (5 : Int32))), (0, .ref 20)]) dX5_costOf_30 rfl rfl (by decide) rfl ?_
    refine V.goto (pc := 33) C (tgt := 11) dX5_costOf_33 (by decide) ?_
    refine V.sub [2, 1, 0] rfl ?_
    exact hK11 _ _ _ hs
theorem tl_X5_costOf_11 {k : KX} (C : Cx k cX5_costOf RX5 6 rmX5_costOf) {r : Int32} {hf : Hp} (T : Rx k (some .int) (some (.int r)) hf) : ∀ (n : Nat) (x2 : Int32) (x3 : Int32) (h : Hp), X5_costOf_l11 n x2 x3 h = some (r, hf) → V k rmX5_costOf 6 11 [(0, .ref 20), (2, .int x2), (3, .int x3)] [] h := by
  intro n
  induction n with
  | zero => intro x2 x3 h hs; cases hs
  | succ n ih => intro x2 x3 h hs; exact tb_X5_costOf_11 C T ih x2 x3 h hs
set_option maxRecDepth 20000 in
theorem ct_X5_costOf (l : Launch) {x1 : Int32} {h hf : Hp} {r : Int32} (hs : X5_costOf x1 h = some (r, hf)) : Ct l yX5_costOf (Cond.code yX5_costOf cX5_costOf 6 (some .int) :: wsG) rmX5_costOf [.ref 20, .int x1] h (some (.int r)) hf := by
  refine Ct.of (by decide +kernel) (fun _ => Nat.le_of_ble_eq_true rfl) (fun k C T => ?_)
  unfold X5_costOf at hs
  show V k rmX5_costOf 6 0 [(0, .ref 20), (1, .int x1)] [] h
  refine V.iload_n (pc := 0) C dX5_costOf_0 1 rfl ?_
  refine V.istore_n (pc := 1) C (i := 2) (lv2 := [(2, .int x1), (0, .ref 20), (1, .int x1)]) dX5_costOf_1 rfl (by decide) rfl ?_
  refine V.aload_n (pc := 2) C dX5_costOf_2 1 rfl ?_
  refine V.getf (pc := 3) C (o := 20) (j := 3) (v := .ref 22) (by decide) rfl rfl inX5 (by decide) (by decide) wf_608 rfl dX5_costOf_3 ?_
  refine V.iconst (pc := 6) C (v := (0 : Int32)) dX5_costOf_6 (by decide) ?_
  refine V.iald (pc := 7) C (o := 22) (v := (h.1 22 0)) (by decide) rfl rfl (by decide) rfl dX5_costOf_7 ?_
  refine V.iconst (pc := 8) C (v := (1 : Int32)) dX5_costOf_8 (by decide) ?_
  refine V.isub (pc := 9) C dX5_costOf_9 ?_
  refine V.istore_n (pc := 10) C (i := 3) (lv2 := [(3, .int ((h.1 22 0) - (1 : Int32))), (2, .int x1), (0, .ref 20), (1, .int x1)]) dX5_costOf_10 rfl (by decide) rfl ?_
  refine V.sub [2, 1, 0] rfl ?_
  exact tl_X5_costOf_11 C T fu _ _ _ hs
abbrev rmX5_even : Room := { frames := 2, cells := 0, slots := 0, locals := 48 }
set_option maxRecDepth 20000 in
theorem tb_X5_even_126 {k : KX} (C : Cx k cX5_even RX5 7 rmX5_even) {r : Int32} {hf : Hp} (T : Rx k (some .int) (some (.int r)) hf) {K45 : Int32 → Int32 → Int32 → Int32 → Hp → Option (Int32 × Hp)} (hK45 : ∀ (x1 : Int32) (x2 : Int32) (x3 : Int32) (x4 : Int32) (h : Hp), K45 x1 x2 x3 x4 h = some (r, hf) → V k rmX5_even 7 45 [(0, .ref 20), (1, .int x1), (2, .int x2), (3, .int x3), (4, .int x4)] [] h) (x1 : Int32) (x2 : Int32) (x3 : Int32) (x4 : Int32) (h : Hp) (hs : X5_even_b126 K45 x1 x2 x3 x4 h = some (r, hf)) : V k rmX5_even 7 126 [(0, .ref 20), (1, .int x1), (2, .int x2), (3, .int x3), (4, .int x4)] [] h := by
  unfold X5_even_b126 at hs
  refine V.iinc (pc := 126) C (j := 4) (v := (x4 + (1 : Int32))) (lv2 := [(4, .int (x4 + (1 : Int32))), (0, .ref 20), (1, .int x1), (2, .int x2), (3, .int x3)]) dX5_even_126 rfl rfl (by decide) rfl ?_
  refine V.goto (pc := 129) C (tgt := 45) dX5_even_129 (by decide) ?_
  refine V.sub [1, 2, 3, 4, 0] rfl ?_
  exact hK45 _ _ _ _ _ hs
set_option maxRecDepth 20000 in
theorem tb_X5_even_95 {k : KX} (C : Cx k cX5_even RX5 7 rmX5_even) {r : Int32} {hf : Hp} (T : Rx k (some .int) (some (.int r)) hf) {K45 : Int32 → Int32 → Int32 → Int32 → Hp → Option (Int32 × Hp)} (hK45 : ∀ (x1 : Int32) (x2 : Int32) (x3 : Int32) (x4 : Int32) (h : Hp), K45 x1 x2 x3 x4 h = some (r, hf) → V k rmX5_even 7 45 [(0, .ref 20), (1, .int x1), (2, .int x2), (3, .int x3), (4, .int x4)] [] h) {K95 : Int32 → Int32 → Int32 → Int32 → Int32 → Hp → Option (Int32 × Hp)} (hK95 : ∀ (x1 : Int32) (x2 : Int32) (x3 : Int32) (x4 : Int32) (x6 : Int32) (h : Hp), K95 x1 x2 x3 x4 x6 h = some (r, hf) → V k rmX5_even 7 95 [(0, .ref 20), (1, .int x1), (2, .int x2), (3, .int x3), (4, .int x4), (6, .int x6)] [] h) (x1 : Int32) (x2 : Int32) (x3 : Int32) (x4 : Int32) (x6 : Int32) (h : Hp) (hs : X5_even_b95 K45 K95 x1 x2 x3 x4 x6 h = some (r, hf)) : V k rmX5_even 7 95 [(0, .ref 20), (1, .int x1), (2, .int x2), (3, .int x3), (4, .int x4), (6, .int x6)] [] h := by
  unfold X5_even_b95 at hs
  refine V.iload (pc := 95) C dX5_even_95 5 rfl ?_
  refine V.aload_n (pc := 97) C dX5_even_97 0 rfl ?_
  refine V.getf (pc := 98) C (o := 20) (j := 3) (v := .ref 22) (by decide) rfl rfl inX5 (by decide) (by decide) wf_608 rfl dX5_even_98 ?_
  refine V.iconst (pc := 101) C (v := (0 : Int32)) dX5_even_101 (by decide) ?_
  refine V.iald (pc := 102) C (o := 22) (v := (h.1 22 0)) (by decide) rfl rfl (by decide) rfl dX5_even_102 ?_
  refine V.icmp_ge (pc := 103) C (tgt := 126) dX5_even_103 (by decide) (fun c20 => ?_) (fun c20 => ?_)
  · have hs := o_if c20 hs
    refine V.sub [0, 1, 2, 3, 4] rfl ?_
    exact tb_X5_even_126 C T hK45 _ _ _ _ _ hs
  · have hs := o_el c20 hs
    refine V.aload_n (pc := 106) C dX5_even_106 0 rfl ?_
    refine V.getf (pc := 107) C (o := 20) (j := 23) (v := .ref 31) (by decide) rfl rfl inX5 (by decide) (by decide) wf_628 rfl dX5_even_107 ?_
    refine V.iload (pc := 110) C dX5_even_110 5 rfl ?_
    refine V.aload_n (pc := 112) C dX5_even_112 0 rfl ?_
    refine V.getf (pc := 113) C (o := 20) (j := 16) (v := .ref 29) (by decide) rfl rfl inX5 (by decide) (by decide) wf_621 rfl dX5_even_113 ?_
    refine V.iload (pc := 116) C dX5_even_116 5 rfl ?_
    obtain ⟨v21, ev21, bv21, hs⟩ := o_ld hs
    refine V.iald (pc := 118) C (o := 29) (v := v21) (by decide) rfl rfl bv21 ev21 dX5_even_118 ?_
    obtain ⟨h22, eh22, bh22, hs⟩ := o_st hs
    refine V.iast (pc := 119) C (o := 31) (h2 := h22) (by decide) rfl rfl bh22 eh22 dX5_even_119 ?_
    refine V.iinc (pc := 120) C (j := 5) (v := (x6 + (1 : Int32))) (lv2 := [(6, .int (x6 + (1 : Int32))), (0, .ref 20), (1, .int x1), (2, .int x2), (3, .int x3), (4, .int x4)]) dX5_even_120 rfl rfl (by decide) rfl ?_
    refine V.goto (pc := 123) C (tgt := 95) dX5_even_123 (by decide) ?_
    refine V.sub [1, 2, 3, 4, 5, 0] rfl ?_
    exact hK95 _ _ _ _ _ _ hs
theorem tl_X5_even_95 {k : KX} (C : Cx k cX5_even RX5 7 rmX5_even) {r : Int32} {hf : Hp} (T : Rx k (some .int) (some (.int r)) hf) {K45 : Int32 → Int32 → Int32 → Int32 → Hp → Option (Int32 × Hp)} (hK45 : ∀ (x1 : Int32) (x2 : Int32) (x3 : Int32) (x4 : Int32) (h : Hp), K45 x1 x2 x3 x4 h = some (r, hf) → V k rmX5_even 7 45 [(0, .ref 20), (1, .int x1), (2, .int x2), (3, .int x3), (4, .int x4)] [] h) : ∀ (n : Nat) (x1 : Int32) (x2 : Int32) (x3 : Int32) (x4 : Int32) (x6 : Int32) (h : Hp), X5_even_l95 K45 n x1 x2 x3 x4 x6 h = some (r, hf) → V k rmX5_even 7 95 [(0, .ref 20), (1, .int x1), (2, .int x2), (3, .int x3), (4, .int x4), (6, .int x6)] [] h := by
  intro n
  induction n with
  | zero => intro x1 x2 x3 x4 x6 h hs; cases hs
  | succ n ih => intro x1 x2 x3 x4 x6 h hs; exact tb_X5_even_95 C T hK45 ih x1 x2 x3 x4 x6 h hs
set_option maxRecDepth 20000 in
theorem tb_X5_even_78 {k : KX} (C : Cx k cX5_even RX5 7 rmX5_even) {r : Int32} {hf : Hp} (T : Rx k (some .int) (some (.int r)) hf) {K45 : Int32 → Int32 → Int32 → Int32 → Hp → Option (Int32 × Hp)} (hK45 : ∀ (x1 : Int32) (x2 : Int32) (x3 : Int32) (x4 : Int32) (h : Hp), K45 x1 x2 x3 x4 h = some (r, hf) → V k rmX5_even 7 45 [(0, .ref 20), (1, .int x1), (2, .int x2), (3, .int x3), (4, .int x4)] [] h) (x1 : Int32) (x2 : Int32) (x3 : Int32) (x4 : Int32) (x5 : Int32) (h : Hp) (hs : X5_even_b78 K45 x1 x2 x3 x4 x5 h = some (r, hf)) : V k rmX5_even 7 78 [(0, .ref 20), (1, .int x1), (2, .int x2), (3, .int x3), (4, .int x4), (5, .int x5)] [] h := by
  unfold X5_even_b78 at hs
  refine V.aload_n (pc := 78) C dX5_even_78 0 rfl ?_
  refine V.aload_n (pc := 79) C dX5_even_79 0 rfl ?_
  obtain ⟨v16, h15, ch15, hs⟩ := o_b2 hs
  refine V.callV (pc := 80) C (o := 20) (rm := rmX5_all) (y := yX5_all) (bytes := cX5_all) (maxL := 1) (ret := (some .int)) (n := 0) (As := []) (rest := [.ref 20]) (rv := (some (.int v16))) (h1 := h15) (st0 := [.ref 20, .ref 20]) (st2 := [.int v16, .ref 20]) (by decide) rfl rfl (ct_X5_all (kL k) ch15) wf_819 wf_821 wf_39 wf_54 wf_822 rfl rfl (by decide +kernel) ⟨by decide, by decide⟩ rfl (Nat.le_of_ble_eq_true rfl) dX5_even_80 rfl rfl ?_
  obtain ⟨v18, h17, ch17, hs⟩ := o_b2 hs
  refine V.callV (pc := 83) C (o := 20) (rm := rmX5_fillBy) (y := yX5_fillBy) (bytes := cX5_fillBy) (maxL := 7) (ret := (some .boolean)) (n := 1) (As := [.int v16]) (rest := []) (rv := (some (.int v18))) (h1 := h17) (st0 := [.int v16, .ref 20]) (st2 := [.int v18]) (by decide) rfl rfl (ct_X5_fillBy (kL k) ch17) wf_827 wf_829 wf_41 wf_54 wf_830 rfl rfl (by decide +kernel) ⟨by decide, by decide⟩ rfl (Nat.le_of_ble_eq_true rfl) dX5_even_83 rfl rfl ?_
  refine V.if_eq (pc := 86) C (tgt := 126) dX5_even_86 (by decide) (fun c19 => ?_) (fun c19 => ?_)
  · have hs := o_if c19 hs
    refine V.sub [0, 1, 2, 3, 4] rfl ?_
    exact tb_X5_even_126 C T hK45 _ _ _ _ _ hs
  · have hs := o_el c19 hs
    refine V.iload (pc := 89) C dX5_even_89 5 rfl ?_
    refine V.istore_n (pc := 91) C (i := 3) (lv2 := [(3, .int x5), (0, .ref 20), (1, .int x1), (2, .int x2), (4, .int x4), (5, .int x5)]) dX5_even_91 rfl (by decide) rfl ?_
    refine V.iconst (pc := 92) C (v := (0 : Int32)) dX5_even_92 (by decide) ?_
    refine V.istore (pc := 93) C (i := 6) (lv2 := [(6, .int (0 : Int32)), (3, .int x5), (0, .ref 20), (1, .int x1), (2, .int x2), (4, .int x4), (5, .int x5)]) dX5_even_93 (by decide) rfl ?_
    refine V.sub [2, 3, 4, 1, 5, 0] rfl ?_
    exact tl_X5_even_95 C T hK45 fu _ _ _ _ _ _ hs
set_option maxRecDepth 20000 in
theorem tb_X5_even_45 {k : KX} (C : Cx k cX5_even RX5 7 rmX5_even) {r : Int32} {hf : Hp} (T : Rx k (some .int) (some (.int r)) hf) {K45 : Int32 → Int32 → Int32 → Int32 → Hp → Option (Int32 × Hp)} (hK45 : ∀ (x1 : Int32) (x2 : Int32) (x3 : Int32) (x4 : Int32) (h : Hp), K45 x1 x2 x3 x4 h = some (r, hf) → V k rmX5_even 7 45 [(0, .ref 20), (1, .int x1), (2, .int x2), (3, .int x3), (4, .int x4)] [] h) (x1 : Int32) (x2 : Int32) (x3 : Int32) (x4 : Int32) (h : Hp) (hs : X5_even_b45 K45 x1 x2 x3 x4 h = some (r, hf)) : V k rmX5_even 7 45 [(0, .ref 20), (1, .int x1), (2, .int x2), (3, .int x3), (4, .int x4)] [] h := by
  unfold X5_even_b45 at hs
  refine V.iload (pc := 45) C dX5_even_45 4 rfl ?_
  refine V.iload_n (pc := 47) C dX5_even_47 2 rfl ?_
  refine V.icmp_ge (pc := 48) C (tgt := 132) dX5_even_48 (by decide) (fun c6 => ?_) (fun c6 => ?_)
  · have hs := o_if c6 hs
    refine V.iload_n (pc := 132) C dX5_even_132 3 rfl ?_
    refine V.bipush (pc := 133) C (v := (-9 : Int32)) dX5_even_133 (by decide) ?_
    refine V.icmp_eq (pc := 135) C (tgt := 143) dX5_even_135 (by decide) (fun c7 => ?_) (fun c7 => ?_)
    · have hs := o_if c7 hs
      refine V.iload_n (pc := 143) C dX5_even_143 3 rfl ?_
      refine V.goto (pc := 144) C (tgt := 153) dX5_even_144 (by decide) ?_
      exact V.iret (pc := 153) C T hs dX5_even_153
    · have hs := o_el c7 hs
      refine V.iload_n (pc := 138) C dX5_even_138 1 rfl ?_
      refine V.iconst (pc := 139) C (v := (-1 : Int32)) dX5_even_139 (by decide) ?_
      refine V.icmp_ne (pc := 140) C (tgt := 147) dX5_even_140 (by decide) (fun c8 => ?_) (fun c8 => ?_)
      · have hs := o_el c8 hs
        refine V.aload_n (pc := 147) C dX5_even_147 0 rfl ?_
        refine V.getf (pc := 148) C (o := 20) (j := 23) (v := .ref 31) (by decide) rfl rfl inX5 (by decide) (by decide) wf_628 rfl dX5_even_148 ?_
        refine V.iload_n (pc := 151) C dX5_even_151 1 rfl ?_
        obtain ⟨v9, ev9, bv9, hs⟩ := o_ld hs
        refine V.iald (pc := 152) C (o := 31) (v := v9) (by decide) rfl rfl bv9 ev9 dX5_even_152 ?_
        exact V.iret (pc := 153) C T hs dX5_even_153
      · have hs := o_if c8 hs
        refine V.iload_n (pc := 143) C dX5_even_143 3 rfl ?_
        refine V.goto (pc := 144) C (tgt := 153) dX5_even_144 (by decide) ?_
        exact V.iret (pc := 153) C T hs dX5_even_153
  · have hs := o_el c6 hs
    refine V.aload_n (pc := 51) C dX5_even_51 0 rfl ?_
    refine V.iload (pc := 52) C dX5_even_52 4 rfl ?_
    obtain ⟨v11, h10, ch10, hs⟩ := o_b2 hs
    refine V.callV (pc := 54) C (o := 20) (rm := rmX5_costOf) (y := yX5_costOf) (bytes := cX5_costOf) (maxL := 6) (ret := (some .int)) (n := 1) (As := [.int x4]) (rest := []) (rv := (some (.int v11))) (h1 := h10) (st0 := [.int x4, .ref 20]) (st2 := [.int v11]) (by decide) rfl rfl (ct_X5_costOf (kL k) ch10) wf_847 wf_849 wf_44 wf_54 wf_850 rfl rfl (by decide +kernel) ⟨by decide, by decide⟩ rfl (Nat.le_of_ble_eq_true rfl) dX5_even_54 rfl rfl ?_
    refine V.istore (pc := 57) C (i := 5) (lv2 := [(5, .int v11), (0, .ref 20), (1, .int x1), (2, .int x2), (3, .int x3), (4, .int x4)]) dX5_even_57 (by decide) rfl ?_
    refine V.iload (pc := 59) C dX5_even_59 0 rfl ?_
    refine V.bipush (pc := 61) C (v := (-9 : Int32)) dX5_even_61 (by decide) ?_
    refine V.icmp_eq (pc := 63) C (tgt := 126) dX5_even_63 (by decide) (fun c12 => ?_) (fun c12 => ?_)
    · have hs := o_if c12 hs
      refine V.sub [1, 2, 3, 4, 5] rfl ?_
      exact tb_X5_even_126 C T hK45 _ _ _ _ _ hs
    · have hs := o_el c12 hs
      refine V.iload_n (pc := 66) C dX5_even_66 4 rfl ?_
      refine V.bipush (pc := 67) C (v := (-9 : Int32)) dX5_even_67 (by decide) ?_
      refine V.icmp_eq (pc := 69) C (tgt := 78) dX5_even_69 (by decide) (fun c13 => ?_) (fun c13 => ?_)
      · have hs := o_if c13 hs
        refine V.sub [1, 2, 3, 4, 5, 0] rfl ?_
        exact tb_X5_even_78 C T hK45 _ _ _ _ _ _ hs
      · have hs := o_el c13 hs
        refine V.iload (pc := 72) C dX5_even_72 0 rfl ?_
        refine V.iload_n (pc := 74) C dX5_even_74 4 rfl ?_
        refine V.icmp_ge (pc := 75) C (tgt := 126) dX5_even_75 (by decide) (fun c14 => ?_) (fun c14 => ?_)
        · have hs := o_if c14 hs
          refine V.sub [1, 2, 3, 4, 5] rfl ?_
          exact tb_X5_even_126 C T hK45 _ _ _ _ _ hs
        · have hs := o_el c14 hs
          refine V.sub [1, 2, 3, 4, 5, 0] rfl ?_
          exact tb_X5_even_78 C T hK45 _ _ _ _ _ _ hs
theorem tl_X5_even_45 {k : KX} (C : Cx k cX5_even RX5 7 rmX5_even) {r : Int32} {hf : Hp} (T : Rx k (some .int) (some (.int r)) hf) : ∀ (n : Nat) (x1 : Int32) (x2 : Int32) (x3 : Int32) (x4 : Int32) (h : Hp), X5_even_l45 n x1 x2 x3 x4 h = some (r, hf) → V k rmX5_even 7 45 [(0, .ref 20), (1, .int x1), (2, .int x2), (3, .int x3), (4, .int x4)] [] h := by
  intro n
  induction n with
  | zero => intro x1 x2 x3 x4 h hs; cases hs
  | succ n ih => intro x1 x2 x3 x4 h hs; exact tb_X5_even_45 C T ih x1 x2 x3 x4 h hs
set_option maxRecDepth 20000 in
theorem tb_X5_even_19 {k : KX} (C : Cx k cX5_even RX5 7 rmX5_even) {r : Int32} {hf : Hp} (T : Rx k (some .int) (some (.int r)) hf) {K19 : Int32 → Int32 → Int32 → Hp → Option (Int32 × Hp)} (hK19 : ∀ (x1 : Int32) (x2 : Int32) (x3 : Int32) (h : Hp), K19 x1 x2 x3 h = some (r, hf) → V k rmX5_even 7 19 [(0, .ref 20), (1, .int x1), (2, .int x2), (3, .int x3)] [] h) (x1 : Int32) (x2 : Int32) (x3 : Int32) (h : Hp) (hs : X5_even_b19 K19 x1 x2 x3 h = some (r, hf)) : V k rmX5_even 7 19 [(0, .ref 20), (1, .int x1), (2, .int x2), (3, .int x3)] [] h := by
  unfold X5_even_b19 at hs
  refine V.iload_n (pc := 19) C dX5_even_19 3 rfl ?_
  refine V.aload_n (pc := 20) C dX5_even_20 0 rfl ?_
  refine V.getf (pc := 21) C (o := 20) (j := 3) (v := .ref 22) (by decide) rfl rfl inX5 (by decide) (by decide) wf_608 rfl dX5_even_21 ?_
  refine V.iconst (pc := 24) C (v := (0 : Int32)) dX5_even_24 (by decide) ?_
  refine V.iald (pc := 25) C (o := 22) (v := (h.1 22 0)) (by decide) rfl rfl (by decide) rfl dX5_even_25 ?_
  refine V.icmp_ge (pc := 26) C (tgt := 39) dX5_even_26 (by decide) (fun c5 => ?_) (fun c5 => ?_)
  · have hs := o_if c5 hs
    refine V.bipush (pc := 39) C (v := (-9 : Int32)) dX5_even_39 (by decide) ?_
    refine V.istore_n (pc := 41) C (i := 3) (lv2 := [(3, .int (-9 : Int32)), (0, .ref 20), (1, .int x1), (2, .int x2)]) dX5_even_41 rfl (by decide) rfl ?_
    refine V.iconst (pc := 42) C (v := (0 : Int32)) dX5_even_42 (by decide) ?_
    refine V.istore (pc := 43) C (i := 4) (lv2 := [(4, .int (0 : Int32)), (3, .int (-9 : Int32)), (0, .ref 20), (1, .int x1), (2, .int x2)]) dX5_even_43 (by decide) rfl ?_
    refine V.sub [2, 3, 4, 1, 0] rfl ?_
    exact tl_X5_even_45 C T fu _ _ _ _ _ hs
  · have hs := o_el c5 hs
    refine V.iload_n (pc := 29) C dX5_even_29 2 rfl ?_
    refine V.iconst (pc := 30) C (v := (5 : Int32)) dX5_even_30 (by decide) ?_
    refine V.imul (pc := 31) C dX5_even_31 ?_
    refine V.istore_n (pc := 32) C (i := 2) (lv2 := [(2, .int (x2 * (5 : Int32))), (0, .ref 20), (1, .int x1), (3, .int x3)]) dX5_even_32 rfl (by decide) rfl ?_
    refine V.iinc (pc := 33) C (j := 3) (v := (x3 + (1 : Int32))) (lv2 := [(3, .int (x3 + (1 : Int32))), (2, .int (x2 * (5 : Int32))), (0, .ref 20), (1, .int x1)]) dX5_even_33 rfl rfl (by decide) rfl ?_
    refine V.goto (pc := 36) C (tgt := 19) dX5_even_36 (by decide) ?_
    refine V.sub [2, 3, 1, 0] rfl ?_
    exact hK19 _ _ _ _ hs
theorem tl_X5_even_19 {k : KX} (C : Cx k cX5_even RX5 7 rmX5_even) {r : Int32} {hf : Hp} (T : Rx k (some .int) (some (.int r)) hf) : ∀ (n : Nat) (x1 : Int32) (x2 : Int32) (x3 : Int32) (h : Hp), X5_even_l19 n x1 x2 x3 h = some (r, hf) → V k rmX5_even 7 19 [(0, .ref 20), (1, .int x1), (2, .int x2), (3, .int x3)] [] h := by
  intro n
  induction n with
  | zero => intro x1 x2 x3 h hs; cases hs
  | succ n ih => intro x1 x2 x3 h hs; exact tb_X5_even_19 C T ih x1 x2 x3 h hs
set_option maxRecDepth 20000 in
theorem tb_X5_even_15 {k : KX} (C : Cx k cX5_even RX5 7 rmX5_even) {r : Int32} {hf : Hp} (T : Rx k (some .int) (some (.int r)) hf) (x1 : Int32) (h : Hp) (hs : X5_even_b15 x1 h = some (r, hf)) : V k rmX5_even 7 15 [(0, .ref 20), (1, .int x1)] [] h := by
  unfold X5_even_b15 at hs
  refine V.iconst (pc := 15) C (v := (1 : Int32)) dX5_even_15 (by decide) ?_
  refine V.istore_n (pc := 16) C (i := 2) (lv2 := [(2, .int (1 : Int32)), (0, .ref 20), (1, .int x1)]) dX5_even_16 rfl (by decide) rfl ?_
  refine V.iconst (pc := 17) C (v := (0 : Int32)) dX5_even_17 (by decide) ?_
  refine V.istore_n (pc := 18) C (i := 3) (lv2 := [(3, .int (0 : Int32)), (2, .int (1 : Int32)), (0, .ref 20), (1, .int x1)]) dX5_even_18 rfl (by decide) rfl ?_
  refine V.sub [2, 3, 1, 0] rfl ?_
  exact tl_X5_even_19 C T fu _ _ _ _ hs
set_option maxRecDepth 20000 in
theorem ct_X5_even (l : Launch) {x1 : Int32} {h hf : Hp} {r : Int32} (hs : X5_even x1 h = some (r, hf)) : Ct l yX5_even (Cond.code yX5_even cX5_even 7 (some .int) :: wsG) rmX5_even [.ref 20, .int x1] h (some (.int r)) hf := by
  refine Ct.of (by decide +kernel) (fun _ => Nat.le_of_ble_eq_true rfl) (fun k C T => ?_)
  unfold X5_even at hs
  show V k rmX5_even 7 0 [(0, .ref 20), (1, .int x1)] [] h
  refine V.iload_n (pc := 0) C dX5_even_0 1 rfl ?_
  refine V.iconst (pc := 1) C (v := (-1 : Int32)) dX5_even_1 (by decide) ?_
  refine V.icmp_eq (pc := 2) C (tgt := 15) dX5_even_2 (by decide) (fun c1 => ?_) (fun c1 => ?_)
  · have hs := o_if c1 hs
    refine V.sub [0, 1] rfl ?_
    exact tb_X5_even_15 C T _ _ hs
  · have hs := o_el c1 hs
    refine V.aload_n (pc := 5) C dX5_even_5 0 rfl ?_
    refine V.iload_n (pc := 6) C dX5_even_6 1 rfl ?_
    obtain ⟨v3, h2, ch2, hs⟩ := o_b2 hs
    refine V.callV (pc := 7) C (o := 20) (rm := rmX5_isLine) (y := yX5_isLine) (bytes := cX5_isLine) (maxL := 2) (ret := (some .boolean)) (n := 1) (As := [.int x1]) (rest := []) (rv := (some (.int v3))) (h1 := h2) (st0 := [.int x1, .ref 20]) (st2 := [.int v3]) (by decide) rfl rfl (ct_X5_isLine (kL k) ch2) wf_732 wf_734 wf_28 wf_54 wf_735 rfl rfl (by decide +kernel) ⟨by decide, by decide⟩ rfl (Nat.le_of_ble_eq_true rfl) dX5_even_7 rfl rfl ?_
    refine V.if_ne (pc := 10) C (tgt := 15) dX5_even_10 (by decide) (fun c4 => ?_) (fun c4 => ?_)
    · have hs := o_el c4 hs
      refine V.sub [0, 1] rfl ?_
      exact tb_X5_even_15 C T _ _ hs
    · have hs := o_if c4 hs
      refine V.iconst (pc := 13) C (v := (-1 : Int32)) dX5_even_13 (by decide) ?_
      exact V.iret (pc := 14) C T hs dX5_even_14
abbrev rmX5_hasNeeds : Room := { frames := 1, cells := 0, slots := 0, locals := 22 }
set_option maxRecDepth 20000 in
theorem tb_X5_hasNeeds_56 {k : KX} (C : Cx k cX5_hasNeeds RX5 5 rmX5_hasNeeds) {r : Int32} {hf : Hp} (T : Rx k (some .boolean) (some (.int r)) hf) {K4 : Int32 → Int32 → Int32 → Hp → Option (Int32 × Hp)} (hK4 : ∀ (x1 : Int32) (x2 : Int32) (x3 : Int32) (h : Hp), K4 x1 x2 x3 h = some (r, hf) → V k rmX5_hasNeeds 5 4 [(0, .ref 20), (1, .int x1), (2, .int x2), (3, .int x3)] [] h) (x1 : Int32) (x3 : Int32) (s0 : Int32) (h : Hp) (hs : X5_hasNeeds_b56 K4 x1 x3 s0 h = some (r, hf)) : V k rmX5_hasNeeds 5 56 [(0, .ref 20), (1, .int x1), (3, .int x3)] [.int s0] h := by
  unfold X5_hasNeeds_b56 at hs
  refine V.istore_n (pc := 56) C (i := 2) (lv2 := [(2, .int s0), (0, .ref 20), (1, .int x1), (3, .int x3)]) dX5_hasNeeds_56 rfl (by decide) rfl ?_
  refine V.iinc (pc := 57) C (j := 3) (v := (x3 + (1 : Int32))) (lv2 := [(3, .int (x3 + (1 : Int32))), (2, .int s0), (0, .ref 20), (1, .int x1)]) dX5_hasNeeds_57 rfl rfl (by decide) rfl ?_
  refine V.goto (pc := 60) C (tgt := 4) dX5_hasNeeds_60 (by decide) ?_
  refine V.sub [2, 3, 1, 0] rfl ?_
  exact hK4 _ _ _ _ hs
set_option maxRecDepth 20000 in
theorem tb_X5_hasNeeds_51 {k : KX} (C : Cx k cX5_hasNeeds RX5 5 rmX5_hasNeeds) {r : Int32} {hf : Hp} (T : Rx k (some .boolean) (some (.int r)) hf) {K4 : Int32 → Int32 → Int32 → Hp → Option (Int32 × Hp)} (hK4 : ∀ (x1 : Int32) (x2 : Int32) (x3 : Int32) (h : Hp), K4 x1 x2 x3 h = some (r, hf) → V k rmX5_hasNeeds 5 4 [(0, .ref 20), (1, .int x1), (2, .int x2), (3, .int x3)] [] h) (x1 : Int32) (x3 : Int32) (h : Hp) (hs : X5_hasNeeds_b51 K4 x1 x3 h = some (r, hf)) : V k rmX5_hasNeeds 5 51 [(0, .ref 20), (1, .int x1), (3, .int x3)] [] h := by
  unfold X5_hasNeeds_b51 at hs
  refine V.iconst (pc := 51) C (v := (1 : Int32)) dX5_hasNeeds_51 (by decide) ?_
  refine V.goto (pc := 52) C (tgt := 56) dX5_hasNeeds_52 (by decide) ?_
  refine V.sub [0, 1, 2] rfl ?_
  exact tb_X5_hasNeeds_56 C T hK4 _ _ _ _ hs
set_option maxRecDepth 20000 in
theorem tb_X5_hasNeeds_55 {k : KX} (C : Cx k cX5_hasNeeds RX5 5 rmX5_hasNeeds) {r : Int32} {hf : Hp} (T : Rx k (some .boolean) (some (.int r)) hf) {K4 : Int32 → Int32 → Int32 → Hp → Option (Int32 × Hp)} (hK4 : ∀ (x1 : Int32) (x2 : Int32) (x3 : Int32) (h : Hp), K4 x1 x2 x3 h = some (r, hf) → V k rmX5_hasNeeds 5 4 [(0, .ref 20), (1, .int x1), (2, .int x2), (3, .int x3)] [] h) (x1 : Int32) (x3 : Int32) (h : Hp) (hs : X5_hasNeeds_b55 K4 x1 x3 h = some (r, hf)) : V k rmX5_hasNeeds 5 55 [(0, .ref 20), (1, .int x1), (3, .int x3)] [] h := by
  unfold X5_hasNeeds_b55 at hs
  refine V.iconst (pc := 55) C (v := (0 : Int32)) dX5_hasNeeds_55 (by decide) ?_
  refine V.sub [0, 1, 2] rfl ?_
  exact tb_X5_hasNeeds_56 C T hK4 _ _ _ _ hs
set_option maxRecDepth 20000 in
theorem tb_X5_hasNeeds_4 {k : KX} (C : Cx k cX5_hasNeeds RX5 5 rmX5_hasNeeds) {r : Int32} {hf : Hp} (T : Rx k (some .boolean) (some (.int r)) hf) {K4 : Int32 → Int32 → Int32 → Hp → Option (Int32 × Hp)} (hK4 : ∀ (x1 : Int32) (x2 : Int32) (x3 : Int32) (h : Hp), K4 x1 x2 x3 h = some (r, hf) → V k rmX5_hasNeeds 5 4 [(0, .ref 20), (1, .int x1), (2, .int x2), (3, .int x3)] [] h) (x1 : Int32) (x2 : Int32) (x3 : Int32) (h : Hp) (hs : X5_hasNeeds_b4 K4 x1 x2 x3 h = some (r, hf)) : V k rmX5_hasNeeds 5 4 [(0, .ref 20), (1, .int x1), (2, .int x2), (3, .int x3)] [] h := by
  unfold X5_hasNeeds_b4 at hs
  refine V.iload_n (pc := 4) C dX5_hasNeeds_4 3 rfl ?_
  refine V.aload_n (pc := 5) C dX5_hasNeeds_5 0 rfl ?_
  refine V.getf (pc := 6) C (o := 20) (j := 5) (v := .ref 24) (by decide) rfl rfl inX5 (by decide) (by decide) wf_610 rfl dX5_hasNeeds_6 ?_
  refine V.iconst (pc := 9) C (v := (0 : Int32)) dX5_hasNeeds_9 (by decide) ?_
  refine V.iald (pc := 10) C (o := 24) (v := (h.1 24 0)) (by decide) rfl rfl (by decide) rfl dX5_hasNeeds_10 ?_
  refine V.icmp_ge (pc := 11) C (tgt := 63) dX5_hasNeeds_11 (by decide) (fun c1 => ?_) (fun c1 => ?_)
  · have hs := o_if c1 hs
    refine V.iload_n (pc := 63) C dX5_hasNeeds_63 2 rfl ?_
    obtain ⟨zz, hs⟩ := o_zb hs
    exact V.zret (pc := 64) C T zz hs dX5_hasNeeds_64
  · have hs := o_el c1 hs
    refine V.aload_n (pc := 14) C dX5_hasNeeds_14 0 rfl ?_
    refine V.iload_n (pc := 15) C dX5_hasNeeds_15 3 rfl ?_
    refine V.iconst (pc := 16) C (v := (2 : Int32)) dX5_hasNeeds_16 (by decide) ?_
    obtain ⟨v3, h2, ch2, hs⟩ := o_b2 hs
    refine V.callV (pc := 17) C (o := 20) (rm := rmX5_of) (y := yX5_of) (bytes := cX5_of) (maxL := 3) (ret := (some .int)) (n := 2) (As := [.int x3, .int (2 : Int32)]) (rest := []) (rv := (some (.int v3))) (h1 := h2) (st0 := [.int (2 : Int32), .int x3, .ref 20]) (st2 := [.int v3]) (by decide) rfl rfl (ct_X5_of (kL k) ch2) wf_744 wf_746 wf_30 wf_54 wf_747 rfl rfl (by decide +kernel) ⟨by decide, by decide⟩ rfl (Nat.le_of_ble_eq_true rfl) dX5_hasNeeds_17 rfl rfl ?_
    refine V.istore (pc := 20) C (i := 4) (lv2 := [(4, .int v3), (0, .ref 20), (1, .int x1), (2, .int x2), (3, .int x3)]) dX5_hasNeeds_20 (by decide) rfl ?_
    refine V.iload_n (pc := 22) C dX5_hasNeeds_22 3 rfl ?_
    refine V.if_eq (pc := 23) C (tgt := 55) dX5_hasNeeds_23 (by decide) (fun c4 => ?_) (fun c4 => ?_)
    · have hs := o_if c4 hs
      refine V.sub [1, 2, 4] rfl ?_
      exact tb_X5_hasNeeds_55 C T hK4 _ _ _ hs
    · have hs := o_el c4 hs
      refine V.iload_n (pc := 26) C dX5_hasNeeds_26 2 rfl ?_
      refine V.iload_n (pc := 27) C dX5_hasNeeds_27 4 rfl ?_
      refine V.ishr (pc := 28) C dX5_hasNeeds_28 ?_
      refine V.iconst (pc := 29) C (v := (1 : Int32)) dX5_hasNeeds_29 (by decide) ?_
      refine V.iand (pc := 30) C dX5_hasNeeds_30 ?_
      refine V.if_eq (pc := 31) C (tgt := 51) dX5_hasNeeds_31 (by decide) (fun c5 => ?_) (fun c5 => ?_)
      · have hs := o_if c5 hs
        refine V.sub [1, 2, 4] rfl ?_
        exact tb_X5_hasNeeds_51 C T hK4 _ _ _ hs
      · have hs := o_el c5 hs
        refine V.iload (pc := 34) C dX5_hasNeeds_34 0 rfl ?_
        refine V.bipush (pc := 36) C (v := (99 : Int32)) dX5_hasNeeds_36 (by decide) ?_
        refine V.icmp_eq (pc := 38) C (tgt := 51) dX5_hasNeeds_38 (by decide) (fun c6 => ?_) (fun c6 => ?_)
        · have hs := o_if c6 hs
          refine V.sub [1, 2, 4] rfl ?_
          exact tb_X5_hasNeeds_51 C T hK4 _ _ _ hs
        · have hs := o_el c6 hs
          refine V.iload_n (pc := 41) C dX5_hasNeeds_41 2 rfl ?_
          refine V.iload (pc := 42) C dX5_hasNeeds_42 0 rfl ?_
          refine V.ishr (pc := 44) C dX5_hasNeeds_44 ?_
          refine V.iconst (pc := 45) C (v := (1 : Int32)) dX5_hasNeeds_45 (by decide) ?_
          refine V.iand (pc := 46) C dX5_hasNeeds_46 ?_
          refine V.iconst (pc := 47) C (v := (1 : Int32)) dX5_hasNeeds_47 (by decide) ?_
          refine V.icmp_ne (pc := 48) C (tgt := 55) dX5_hasNeeds_48 (by decide) (fun c7 => ?_) (fun c7 => ?_)
          · have hs := o_el c7 hs
            refine V.sub [1, 2, 4] rfl ?_
            exact tb_X5_hasNeeds_55 C T hK4 _ _ _ hs
          · have hs := o_if c7 hs
            refine V.sub [1, 2, 4] rfl ?_
            exact tb_X5_hasNeeds_51 C T hK4 _ _ _ hs
theorem tl_X5_hasNeeds_4 {k : KX} (C : Cx k cX5_hasNeeds RX5 5 rmX5_hasNeeds) {r : Int32} {hf : Hp} (T : Rx k (some .boolean) (some (.int r)) hf) : ∀ (n : Nat) (x1 : Int32) (x2 : Int32) (x3 : Int32) (h : Hp), X5_hasNeeds_l4 n x1 x2 x3 h = some (r, hf) → V k rmX5_hasNeeds 5 4 [(0, .ref 20), (1, .int x1), (2, .int x2), (3, .int x3)] [] h := by
  intro n
  induction n with
  | zero => intro x1 x2 x3 h hs; cases hs
  | succ n ih => intro x1 x2 x3 h hs; exact tb_X5_hasNeeds_4 C T ih x1 x2 x3 h hs
set_option maxRecDepth 20000 in
theorem ct_X5_hasNeeds (l : Launch) {x1 : Int32} {h hf : Hp} {r : Int32} (hs : X5_hasNeeds x1 h = some (r, hf)) : Ct l yX5_hasNeeds (Cond.code yX5_hasNeeds cX5_hasNeeds 5 (some .boolean) :: wsG) rmX5_hasNeeds [.ref 20, .int x1] h (some (.int r)) hf := by
  refine Ct.of (by decide +kernel) (fun _ => Nat.le_of_ble_eq_true rfl) (fun k C T => ?_)
  unfold X5_hasNeeds at hs
  show V k rmX5_hasNeeds 5 0 [(0, .ref 20), (1, .int x1)] [] h
  refine V.iconst (pc := 0) C (v := (1 : Int32)) dX5_hasNeeds_0 (by decide) ?_
  refine V.istore_n (pc := 1) C (i := 2) (lv2 := [(2, .int (1 : Int32)), (0, .ref 20), (1, .int x1)]) dX5_hasNeeds_1 rfl (by decide) rfl ?_
  refine V.iconst (pc := 2) C (v := (0 : Int32)) dX5_hasNeeds_2 (by decide) ?_
  refine V.istore_n (pc := 3) C (i := 3) (lv2 := [(3, .int (0 : Int32)), (2, .int (1 : Int32)), (0, .ref 20), (1, .int x1)]) dX5_hasNeeds_3 rfl (by decide) rfl ?_
  refine V.sub [2, 3, 1, 0] rfl ?_
  exact tl_X5_hasNeeds_4 C T fu _ _ _ _ hs
