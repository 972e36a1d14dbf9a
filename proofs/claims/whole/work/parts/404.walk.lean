abbrev rmX5_keep : Room := { frames := 1, cells := 0, slots := 0, locals := 23 }
set_option maxRecDepth 20000 in
theorem ct_X5_keep (l : Launch) {x1 : Int32} {h hf : Hp} {r : Int32} (hs : X5_keep x1 h = some (r, hf)) : Ct l yX5_keep (Cond.code yX5_keep cX5_keep 2 (some .int) :: wsG) rmX5_keep [.ref 20, .int x1] h (some (.int r)) hf := by
  refine Ct.of (by decide +kernel) (fun _ => Nat.le_of_ble_eq_true rfl) (fun k C T => ?_)
  unfold X5_keep at hs
  show V k rmX5_keep 2 0 [(0, .ref 20), (1, .int x1)] [] h
  refine V.iload_n (pc := 0) C dX5_keep_0 1 rfl ?_
  refine V.iconst (pc := 1) C (v := (0 : Int32)) dX5_keep_1 (by decide) ?_
  refine V.iconst (pc := 2) C (v := (1 : Int32)) dX5_keep_2 (by decide) ?_
  obtain ⟨v2, h1, ch1, hs⟩ := o_b2 hs
  refine V.callS (pc := 3) C (rm := rmX5_in) (y := yX5_in) (bytes := cX5_in) (maxL := 3) (ret := (some .boolean)) (n := 3) (As := [.int x1, .int (0 : Int32), .int (1 : Int32)]) (rest := []) (rv := (some (.int v2))) (h1 := h1) (st0 := [.int (1 : Int32), .int (0 : Int32), .int x1]) (st2 := [.int v2]) (ct_X5_in (kL k) ch1) wf_693 wf_694 wf_54 wf_695 rfl rfl (by decide +kernel) ⟨by decide, by decide⟩ rfl (Nat.le_of_ble_eq_true rfl) dX5_keep_3 rfl rfl ?_
  refine V.if_ne (pc := 6) C (tgt := 11) dX5_keep_6 (by decide) (fun c3 => ?_) (fun c3 => ?_)
  · have hs := o_el c3 hs
    refine V.aload_n (pc := 11) C dX5_keep_11 0 rfl ?_
    refine V.iconst (pc := 12) C (v := (0 : Int32)) dX5_keep_12 (by decide) ?_
    refine V.bipush (pc := 13) C (v := (66 : Int32)) dX5_keep_13 (by decide) ?_
    refine V.iconst (pc := 15) C (v := (1 : Int32)) dX5_keep_15 (by decide) ?_
    refine V.iload_n (pc := 16) C dX5_keep_16 1 rfl ?_
    refine V.iadd (pc := 17) C dX5_keep_17 ?_
    refine V.imul (pc := 18) C dX5_keep_18 ?_
    obtain ⟨h4, ch4, hs⟩ := o_bind hs
    refine V.callV (pc := 19) C (o := 20) (rm := rmX5_copy) (y := yX5_copy) (bytes := cX5_copy) (maxL := 4) (ret := none) (n := 2) (As := [.int (0 : Int32), .int ((66 : Int32) * ((1 : Int32) + x1))]) (rest := []) (rv := none) (h1 := h4) (st0 := [.int ((66 : Int32) * ((1 : Int32) + x1)), .int (0 : Int32), .ref 20]) (st2 := []) (by decide) rfl rfl (ct_X5_copy (kL k) ch4) wf_907 wf_909 wf_47 wf_54 wf_910 rfl rfl (by decide +kernel) ⟨by decide, by decide⟩ rfl (Nat.le_of_ble_eq_true rfl) dX5_keep_19 rfl rfl ?_
    refine V.aload_n (pc := 22) C dX5_keep_22 0 rfl ?_
    refine V.getf (pc := 23) C (o := 20) (j := 15) (v := .ref 28) (by decide) rfl rfl inX5 (by decide) (by decide) wf_620 rfl dX5_keep_23 ?_
    refine V.iload_n (pc := 26) C dX5_keep_26 1 rfl ?_
    refine V.iconst (pc := 27) C (v := (1 : Int32)) dX5_keep_27 (by decide) ?_
    obtain ⟨h5, eh5, bh5, hs⟩ := o_st hs
    refine V.zast (pc := 28) C (o := 28) (w := (1 : Int32)) (h2 := h5) (by decide) rfl rfl bh5 rfl eh5 dX5_keep_28 ?_
    refine V.aload_n (pc := 29) C dX5_keep_29 0 rfl ?_
    refine V.getf (pc := 30) C (o := 20) (j := 14) (v := .ref 27) (by decide) rfl rfl inX5 (by decide) (by decide) wf_619 rfl dX5_keep_30 ?_
    refine V.iconst (pc := 33) C (v := (0 : Int32)) dX5_keep_33 (by decide) ?_
    refine V.iald (pc := 34) C (o := 27) (v := (h5.1 27 0)) (by decide) rfl rfl (by decide) rfl dX5_keep_34 ?_
    exact V.iret (pc := 35) C T hs dX5_keep_35
  · have hs := o_if c3 hs
    refine V.iconst (pc := 9) C (v := (-1 : Int32)) dX5_keep_9 (by decide) ?_
    exact V.iret (pc := 10) C T hs dX5_keep_10
abbrev rmX5_back : Room := { frames := 1, cells := 0, slots := 0, locals := 23 }
set_option maxRecDepth 20000 in
theorem ct_X5_back (l : Launch) {x1 : Int32} {h hf : Hp} {r : Int32} (hs : X5_back x1 h = some (r, hf)) : Ct l yX5_back (Cond.code yX5_back cX5_back 2 (some .int) :: wsG) rmX5_back [.ref 20, .int x1] h (some (.int r)) hf := by
  refine Ct.of (by decide +kernel) (fun _ => Nat.le_of_ble_eq_true rfl) (fun k C T => ?_)
  unfold X5_back at hs
  show V k rmX5_back 2 0 [(0, .ref 20), (1, .int x1)] [] h
  refine V.iload_n (pc := 0) C dX5_back_0 1 rfl ?_
  refine V.iconst (pc := 1) C (v := (0 : Int32)) dX5_back_1 (by decide) ?_
  refine V.iconst (pc := 2) C (v := (1 : Int32)) dX5_back_2 (by decide) ?_
  obtain ⟨v2, h1, ch1, hs⟩ := o_b2 hs
  refine V.callS (pc := 3) C (rm := rmX5_in) (y := yX5_in) (bytes := cX5_in) (maxL := 3) (ret := (some .boolean)) (n := 3) (As := [.int x1, .int (0 : Int32), .int (1 : Int32)]) (rest := []) (rv := (some (.int v2))) (h1 := h1) (st0 := [.int (1 : Int32), .int (0 : Int32), .int x1]) (st2 := [.int v2]) (ct_X5_in (kL k) ch1) wf_693 wf_694 wf_54 wf_695 rfl rfl (by decide +kernel) ⟨by decide, by decide⟩ rfl (Nat.le_of_ble_eq_true rfl) dX5_back_3 rfl rfl ?_
  refine V.if_ne (pc := 6) C (tgt := 11) dX5_back_6 (by decide) (fun c3 => ?_) (fun c3 => ?_)
  · have hs := o_el c3 hs
    refine V.aload_n (pc := 11) C dX5_back_11 0 rfl ?_
    refine V.getf (pc := 12) C (o := 20) (j := 15) (v := .ref 28) (by decide) rfl rfl inX5 (by decide) (by decide) wf_620 rfl dX5_back_12 ?_
    refine V.iload_n (pc := 15) C dX5_back_15 1 rfl ?_
    obtain ⟨v4, ev4, bv4, hs⟩ := o_ld hs
    refine V.zald (pc := 16) C (o := 28) (v := v4) (by decide) rfl rfl bv4 ev4 dX5_back_16 ?_
    refine V.if_ne (pc := 17) C (tgt := 23) dX5_back_17 (by decide) (fun c5 => ?_) (fun c5 => ?_)
    · have hs := o_el c5 hs
      refine V.aload_n (pc := 23) C dX5_back_23 0 rfl ?_
      refine V.bipush (pc := 24) C (v := (66 : Int32)) dX5_back_24 (by decide) ?_
      refine V.iconst (pc := 26) C (v := (1 : Int32)) dX5_back_26 (by decide) ?_
      refine V.iload_n (pc := 27) C dX5_back_27 1 rfl ?_
      refine V.iadd (pc := 28) C dX5_back_28 ?_
      refine V.imul (pc := 29) C dX5_back_29 ?_
      refine V.iconst (pc := 30) C (v := (0 : Int32)) dX5_back_30 (by decide) ?_
      obtain ⟨h6, ch6, hs⟩ := o_bind hs
      refine V.callV (pc := 31) C (o := 20) (rm := rmX5_copy) (y := yX5_copy) (bytes := cX5_copy) (maxL := 4) (ret := none) (n := 2) (As := [.int ((66 : Int32) * ((1 : Int32) + x1)), .int (0 : Int32)]) (rest := []) (rv := none) (h1 := h6) (st0 := [.int (0 : Int32), .int ((66 : Int32) * ((1 : Int32) + x1)), .ref 20]) (st2 := []) (by decide) rfl rfl (ct_X5_copy (kL k) ch6) wf_907 wf_909 wf_47 wf_54 wf_910 rfl rfl (by decide +kernel) ⟨by decide, by decide⟩ rfl (Nat.le_of_ble_eq_true rfl) dX5_back_31 rfl rfl ?_
      refine V.aload_n (pc := 34) C dX5_back_34 0 rfl ?_
      refine V.getf (pc := 35) C (o := 20) (j := 14) (v := .ref 27) (by decide) rfl rfl inX5 (by decide) (by decide) wf_619 rfl dX5_back_35 ?_
      refine V.iconst (pc := 38) C (v := (0 : Int32)) dX5_back_38 (by decide) ?_
      refine V.iald (pc := 39) C (o := 27) (v := (h6.1 27 0)) (by decide) rfl rfl (by decide) rfl dX5_back_39 ?_
      exact V.iret (pc := 40) C T hs dX5_back_40
    · have hs := o_if c5 hs
      refine V.bipush (pc := 20) C (v := (-2 : Int32)) dX5_back_20 (by decide) ?_
      exact V.iret (pc := 22) C T hs dX5_back_22
  · have hs := o_if c3 hs
    refine V.iconst (pc := 9) C (v := (-1 : Int32)) dX5_back_9 (by decide) ?_
    exact V.iret (pc := 10) C T hs dX5_back_10
abbrev rmX5_count : Room := { frames := 0, cells := 0, slots := 0, locals := 0 }
set_option maxRecDepth 20000 in
theorem ct_X5_count (l : Launch) {x1 : Int32} {h hf : Hp} {r : Int32} (hs : X5_count x1 h = some (r, hf)) : Ct l yX5_count (Cond.code yX5_count cX5_count 2 (some .int) :: wsG) rmX5_count [.ref 20, .int x1] h (some (.int r)) hf := by
  refine Ct.of (by decide +kernel) (fun _ => Nat.le_of_ble_eq_true rfl) (fun k C T => ?_)
  unfold X5_count at hs
  show V k rmX5_count 2 0 [(0, .ref 20), (1, .int x1)] [] h
  refine V.iload_n (pc := 0) C dX5_count_0 1 rfl ?_
  by_cases c1_0 : x1 = (0 : Int32)
  · have hs := o_if c1_0 hs
    refine V.tin (pc := 1) C (tgt := 40) (off := 39) dX5_count_1 c1_0 (by decide) (by decide) (by decide) (by decide) ?_
    refine V.aload_n (pc := 40) C dX5_count_40 0 rfl ?_
    refine V.getf (pc := 41) C (o := 20) (j := 3) (v := .ref 22) (by decide) rfl rfl inX5 (by decide) (by decide) wf_608 rfl dX5_count_41 ?_
    refine V.iconst (pc := 44) C (v := (0 : Int32)) dX5_count_44 (by decide) ?_
    refine V.iald (pc := 45) C (o := 22) (v := (h.1 22 0)) (by decide) rfl rfl (by decide) rfl dX5_count_45 ?_
    exact V.iret (pc := 46) C T hs dX5_count_46
  have hs := o_el c1_0 hs
  by_cases c1_1 : x1 = (1 : Int32)
  · have hs := o_if c1_1 hs
    refine V.tin (pc := 1) C (tgt := 47) (off := 46) dX5_count_1 c1_1 (by decide) (by decide) (by decide) (by decide) ?_
    refine V.aload_n (pc := 47) C dX5_count_47 0 rfl ?_
    refine V.getf (pc := 48) C (o := 20) (j := 5) (v := .ref 24) (by decide) rfl rfl inX5 (by decide) (by decide) wf_610 rfl dX5_count_48 ?_
    refine V.iconst (pc := 51) C (v := (0 : Int32)) dX5_count_51 (by decide) ?_
    refine V.iald (pc := 52) C (o := 24) (v := (h.1 24 0)) (by decide) rfl rfl (by decide) rfl dX5_count_52 ?_
    exact V.iret (pc := 53) C T hs dX5_count_53
  have hs := o_el c1_1 hs
  by_cases c1_2 : x1 = (2 : Int32)
  · have hs := o_if c1_2 hs
    refine V.tin (pc := 1) C (tgt := 54) (off := 53) dX5_count_1 c1_2 (by decide) (by decide) (by decide) (by decide) ?_
    refine V.aload_n (pc := 54) C dX5_count_54 0 rfl ?_
    refine V.getf (pc := 55) C (o := 20) (j := 7) (v := .ref 26) (by decide) rfl rfl inX5 (by decide) (by decide) wf_612 rfl dX5_count_55 ?_
    refine V.iconst (pc := 58) C (v := (0 : Int32)) dX5_count_58 (by decide) ?_
    refine V.iald (pc := 59) C (o := 26) (v := (h.1 26 0)) (by decide) rfl rfl (by decide) rfl dX5_count_59 ?_
    exact V.iret (pc := 60) C T hs dX5_count_60
  have hs := o_el c1_2 hs
  by_cases c1_3 : x1 = (3 : Int32)
  · have hs := o_if c1_3 hs
    refine V.tin (pc := 1) C (tgt := 61) (off := 60) dX5_count_1 c1_3 (by decide) (by decide) (by decide) (by decide) ?_
    refine V.aload_n (pc := 61) C dX5_count_61 0 rfl ?_
    refine V.getf (pc := 62) C (o := 20) (j := 26) (v := .int (h.1 20 26)) (by decide) rfl rfl inX5 (by decide) (by decide) wf_631 rfl dX5_count_62 ?_
    exact V.iret (pc := 65) C T hs dX5_count_65
  have hs := o_el c1_3 hs
  by_cases c1_4 : x1 = (4 : Int32)
  · have hs := o_if c1_4 hs
    refine V.tin (pc := 1) C (tgt := 66) (off := 65) dX5_count_1 c1_4 (by decide) (by decide) (by decide) (by decide) ?_
    refine V.aload_n (pc := 66) C dX5_count_66 0 rfl ?_
    refine V.getf (pc := 67) C (o := 20) (j := 14) (v := .ref 27) (by decide) rfl rfl inX5 (by decide) (by decide) wf_619 rfl dX5_count_67 ?_
    refine V.iconst (pc := 70) C (v := (5 : Int32)) dX5_count_70 (by decide) ?_
    refine V.iald (pc := 71) C (o := 27) (v := (h.1 27 5)) (by decide) rfl rfl (by decide) rfl dX5_count_71 ?_
    exact V.iret (pc := 72) C T hs dX5_count_72
  have hs := o_el c1_4 hs
  by_cases c1_5 : x1 = (5 : Int32)
  · have hs := o_if c1_5 hs
    refine V.tin (pc := 1) C (tgt := 73) (off := 72) dX5_count_1 c1_5 (by decide) (by decide) (by decide) (by decide) ?_
    refine V.aload_n (pc := 73) C dX5_count_73 0 rfl ?_
    refine V.getf (pc := 74) C (o := 20) (j := 2) (v := .int (h.1 20 2)) (by decide) rfl rfl inX5 (by decide) (by decide) wf_607 rfl dX5_count_74 ?_
    exact V.iret (pc := 77) C T hs dX5_count_77
  have hs := o_el c1_5 hs
  have ic1_0 : (x1).toInt ≠ 0 := fun z => c1_0 (Int32.toInt_inj.mp z)
  have ic1_1 : (x1).toInt ≠ 1 := fun z => c1_1 (Int32.toInt_inj.mp z)
  have ic1_2 : (x1).toInt ≠ 2 := fun z => c1_2 (Int32.toInt_inj.mp z)
  have ic1_3 : (x1).toInt ≠ 3 := fun z => c1_3 (Int32.toInt_inj.mp z)
  have ic1_4 : (x1).toInt ≠ 4 := fun z => c1_4 (Int32.toInt_inj.mp z)
  have ic1_5 : (x1).toInt ≠ 5 := fun z => c1_5 (Int32.toInt_inj.mp z)
  refine V.tout (pc := 1) C (tgt := 78) dX5_count_1 (by omega) (by decide) ?_
  refine V.iconst (pc := 78) C (v := (-1 : Int32)) dX5_count_78 (by decide) ?_
  exact V.iret (pc := 79) C T hs dX5_count_79
abbrev rmX5_trace : Room := { frames := 0, cells := 0, slots := 0, locals := 0 }
set_option maxRecDepth 20000 in
theorem ct_X5_trace (l : Launch) {h hf : Hp} {r : Int64} (hs : X5_trace h = some (r, hf)) : Ct l yX5_trace (Cond.code yX5_trace cX5_trace 1 (some .long) :: wsG) rmX5_trace [.ref 20] h (some (.long r)) hf := by
  refine Ct.of (by decide +kernel) (fun _ => Nat.le_of_ble_eq_true rfl) (fun k C T => ?_)
  unfold X5_trace at hs
  show V k rmX5_trace 1 0 [(0, .ref 20)] [] h
  refine V.aload_n (pc := 0) C dX5_trace_0 0 rfl ?_
  refine V.getf (pc := 1) C (o := 20) (j := 0) (v := .long (h.2 20 0)) (by decide) rfl rfl inX5 (by decide) (by decide) wf_605 rfl dX5_trace_1 ?_
  exact V.lret (pc := 4) C T hs dX5_trace_4
