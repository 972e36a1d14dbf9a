abbrev rmX5_line : Room := { frames := 2, cells := 0, slots := 0, locals := 43 }
set_option maxRecDepth 20000 in
theorem ct_X5_line (l : Launch) {x1 : Int32} {h hf : Hp} {r : Int32} (hs : X5_line x1 h = some (r, hf)) : Ct l yX5_line (Cond.code yX5_line cX5_line 2 (some .int) :: wsG) rmX5_line [.ref 20, .int x1] h (some (.int r)) hf := by
  refine Ct.of (by decide +kernel) (fun _ => Nat.le_of_ble_eq_true rfl) (fun k C T => ?_)
  unfold X5_line at hs
  show V k rmX5_line 2 0 [(0, .ref 20), (1, .int x1)] [] h
  refine V.aload_n (pc := 0) C dX5_line_0 0 rfl ?_
  refine V.iload_n (pc := 1) C dX5_line_1 1 rfl ?_
  obtain ⟨v2, h1, ch1, hs⟩ := o_b2 hs
  refine V.callV (pc := 2) C (o := 20) (rm := rmX5_isLine) (y := yX5_isLine) (bytes := cX5_isLine) (maxL := 2) (ret := (some .boolean)) (n := 1) (As := [.int x1]) (rest := []) (rv := (some (.int v2))) (h1 := h1) (st0 := [.int x1, .ref 20]) (st2 := [.int v2]) (by decide) rfl rfl (ct_X5_isLine (kL k) ch1) wf_732 wf_734 wf_28 wf_54 wf_735 rfl rfl (by decide +kernel) ⟨by decide, by decide⟩ rfl (Nat.le_of_ble_eq_true rfl) dX5_line_2 rfl rfl ?_
  refine V.if_eq (pc := 5) C (tgt := 17) dX5_line_5 (by decide) (fun c3 => ?_) (fun c3 => ?_)
  · have hs := o_if c3 hs
    refine V.iconst (pc := 17) C (v := (-1 : Int32)) dX5_line_17 (by decide) ?_
    exact V.iret (pc := 18) C T hs dX5_line_18
  · have hs := o_el c3 hs
    refine V.aload_n (pc := 8) C dX5_line_8 0 rfl ?_
    refine V.getf (pc := 9) C (o := 20) (j := 4) (v := .ref 23) (by decide) rfl rfl inX5 (by decide) (by decide) wf_609 rfl dX5_line_9 ?_
    refine V.iload_n (pc := 12) C dX5_line_12 1 rfl ?_
    obtain ⟨v4, ev4, bv4, hs⟩ := o_ld hs
    refine V.iald (pc := 13) C (o := 23) (v := v4) (by decide) rfl rfl bv4 ev4 dX5_line_13 ?_
    refine V.goto (pc := 14) C (tgt := 18) dX5_line_14 (by decide) ?_
    exact V.iret (pc := 18) C T hs dX5_line_18
abbrev rmX5_isPiece : Room := { frames := 1, cells := 0, slots := 0, locals := 22 }
set_option maxRecDepth 20000 in
theorem ct_X5_isPiece (l : Launch) {x1 : Int32} {h hf : Hp} {r : Int32} (hs : X5_isPiece x1 h = some (r, hf)) : Ct l yX5_isPiece (Cond.code yX5_isPiece cX5_isPiece 2 (some .boolean) :: wsG) rmX5_isPiece [.ref 20, .int x1] h (some (.int r)) hf := by
  refine Ct.of (by decide +kernel) (fun _ => Nat.le_of_ble_eq_true rfl) (fun k C T => ?_)
  unfold X5_isPiece at hs
  show V k rmX5_isPiece 2 0 [(0, .ref 20), (1, .int x1)] [] h
  refine V.iload_n (pc := 0) C dX5_isPiece_0 1 rfl ?_
  refine V.iconst (pc := 1) C (v := (0 : Int32)) dX5_isPiece_1 (by decide) ?_
  refine V.aload_n (pc := 2) C dX5_isPiece_2 0 rfl ?_
  refine V.getf (pc := 3) C (o := 20) (j := 5) (v := .ref 24) (by decide) rfl rfl inX5 (by decide) (by decide) wf_610 rfl dX5_isPiece_3 ?_
  refine V.iconst (pc := 6) C (v := (0 : Int32)) dX5_isPiece_6 (by decide) ?_
  refine V.iald (pc := 7) C (o := 24) (v := (h.1 24 0)) (by decide) rfl rfl (by decide) rfl dX5_isPiece_7 ?_
  refine V.iconst (pc := 8) C (v := (1 : Int32)) dX5_isPiece_8 (by decide) ?_
  refine V.isub (pc := 9) C dX5_isPiece_9 ?_
  obtain ⟨v2, h1, ch1, hs⟩ := o_b2 hs
  refine V.callS (pc := 10) C (rm := rmX5_in) (y := yX5_in) (bytes := cX5_in) (maxL := 3) (ret := (some .boolean)) (n := 3) (As := [.int x1, .int (0 : Int32), .int ((h.1 24 0) - (1 : Int32))]) (rest := []) (rv := (some (.int v2))) (h1 := h1) (st0 := [.int ((h.1 24 0) - (1 : Int32)), .int (0 : Int32), .int x1]) (st2 := [.int v2]) (ct_X5_in (kL k) ch1) wf_693 wf_694 wf_54 wf_695 rfl rfl (by decide +kernel) ⟨by decide, by decide⟩ rfl (Nat.le_of_ble_eq_true rfl) dX5_isPiece_10 rfl rfl ?_
  obtain ⟨zz, hs⟩ := o_zb hs
  exact V.zret (pc := 13) C T zz hs dX5_isPiece_13
abbrev rmX5_of : Room := { frames := 0, cells := 0, slots := 0, locals := 0 }
set_option maxRecDepth 20000 in
theorem ct_X5_of (l : Launch) {x1 : Int32} {x2 : Int32} {h hf : Hp} {r : Int32} (hs : X5_of x1 x2 h = some (r, hf)) : Ct l yX5_of (Cond.code yX5_of cX5_of 3 (some .int) :: wsG) rmX5_of [.ref 20, .int x1, .int x2] h (some (.int r)) hf := by
  refine Ct.of (by decide +kernel) (fun _ => Nat.le_of_ble_eq_true rfl) (fun k C T => ?_)
  unfold X5_of at hs
  show V k rmX5_of 3 0 [(0, .ref 20), (1, .int x1), (2, .int x2)] [] h
  refine V.aload_n (pc := 0) C dX5_of_0 0 rfl ?_
  refine V.getf (pc := 1) C (o := 20) (j := 6) (v := .ref 25) (by decide) rfl rfl inX5 (by decide) (by decide) wf_611 rfl dX5_of_1 ?_
  refine V.iconst (pc := 4) C (v := (5 : Int32)) dX5_of_4 (by decide) ?_
  refine V.iload_n (pc := 5) C dX5_of_5 1 rfl ?_
  refine V.imul (pc := 6) C dX5_of_6 ?_
  refine V.iload_n (pc := 7) C dX5_of_7 2 rfl ?_
  refine V.iadd (pc := 8) C dX5_of_8 ?_
  obtain ⟨v1, ev1, bv1, hs⟩ := o_ld hs
  refine V.iald (pc := 9) C (o := 25) (v := v1) (by decide) rfl rfl bv1 ev1 dX5_of_9 ?_
  exact V.iret (pc := 10) C T hs dX5_of_10
abbrev rmX5_word : Room := { frames := 2, cells := 0, slots := 0, locals := 43 }
set_option maxRecDepth 20000 in
theorem ct_X5_word (l : Launch) {x1 : Int32} {x2 : Int32} {h hf : Hp} {r : Int32} (hs : X5_word x1 x2 h = some (r, hf)) : Ct l yX5_word (Cond.code yX5_word cX5_word 3 (some .int) :: wsG) rmX5_word [.ref 20, .int x1, .int x2] h (some (.int r)) hf := by
  refine Ct.of (by decide +kernel) (fun _ => Nat.le_of_ble_eq_true rfl) (fun k C T => ?_)
  unfold X5_word at hs
  show V k rmX5_word 3 0 [(0, .ref 20), (1, .int x1), (2, .int x2)] [] h
  refine V.aload_n (pc := 0) C dX5_word_0 0 rfl ?_
  refine V.iload_n (pc := 1) C dX5_word_1 1 rfl ?_
  obtain ⟨v2, h1, ch1, hs⟩ := o_b2 hs
  refine V.callV (pc := 2) C (o := 20) (rm := rmX5_isPiece) (y := yX5_isPiece) (bytes := cX5_isPiece) (maxL := 2) (ret := (some .boolean)) (n := 1) (As := [.int x1]) (rest := []) (rv := (some (.int v2))) (h1 := h1) (st0 := [.int x1, .ref 20]) (st2 := [.int v2]) (by decide) rfl rfl (ct_X5_isPiece (kL k) ch1) wf_740 wf_742 wf_29 wf_54 wf_743 rfl rfl (by decide +kernel) ⟨by decide, by decide⟩ rfl (Nat.le_of_ble_eq_true rfl) dX5_word_2 rfl rfl ?_
  refine V.if_eq (pc := 5) C (tgt := 17) dX5_word_5 (by decide) (fun c3 => ?_) (fun c3 => ?_)
  · have hs := o_if c3 hs
    refine V.iconst (pc := 17) C (v := (-1 : Int32)) dX5_word_17 (by decide) ?_
    exact V.iret (pc := 18) C T hs dX5_word_18
  · have hs := o_el c3 hs
    refine V.iload_n (pc := 8) C dX5_word_8 2 rfl ?_
    refine V.iconst (pc := 9) C (v := (0 : Int32)) dX5_word_9 (by decide) ?_
    refine V.iconst (pc := 10) C (v := (5 : Int32)) dX5_word_10 (by decide) ?_
    obtain ⟨v5, h4, ch4, hs⟩ := o_b2 hs
    refine V.callS (pc := 11) C (rm := rmX5_in) (y := yX5_in) (bytes := cX5_in) (maxL := 3) (ret := (some .boolean)) (n := 3) (As := [.int x2, .int (0 : Int32), .int (5 : Int32)]) (rest := []) (rv := (some (.int v5))) (h1 := h4) (st0 := [.int (5 : Int32), .int (0 : Int32), .int x2]) (st2 := [.int v5]) (ct_X5_in (kL k) ch4) wf_693 wf_694 wf_54 wf_695 rfl rfl (by decide +kernel) ⟨by decide, by decide⟩ rfl (Nat.le_of_ble_eq_true rfl) dX5_word_11 rfl rfl ?_
    refine V.if_ne (pc := 14) C (tgt := 19) dX5_word_14 (by decide) (fun c6 => ?_) (fun c6 => ?_)
    · have hs := o_el c6 hs
      refine V.iload_n (pc := 19) C dX5_word_19 2 rfl ?_
      refine V.iconst (pc := 20) C (v := (5 : Int32)) dX5_word_20 (by decide) ?_
      refine V.icmp_ne (pc := 21) C (tgt := 37) dX5_word_21 (by decide) (fun c7 => ?_) (fun c7 => ?_)
      · have hs := o_el c7 hs
        refine V.aload_n (pc := 37) C dX5_word_37 0 rfl ?_
        refine V.iload_n (pc := 38) C dX5_word_38 1 rfl ?_
        refine V.iload_n (pc := 39) C dX5_word_39 2 rfl ?_
        obtain ⟨v9, h8, ch8, hs⟩ := o_b2 hs
        refine V.callV (pc := 40) C (o := 20) (rm := rmX5_of) (y := yX5_of) (bytes := cX5_of) (maxL := 3) (ret := (some .int)) (n := 2) (As := [.int x1, .int x2]) (rest := []) (rv := (some (.int v9))) (h1 := h8) (st0 := [.int x2, .int x1, .ref 20]) (st2 := [.int v9]) (by decide) rfl rfl (ct_X5_of (kL k) ch8) wf_744 wf_746 wf_30 wf_54 wf_747 rfl rfl (by decide +kernel) ⟨by decide, by decide⟩ rfl (Nat.le_of_ble_eq_true rfl) dX5_word_40 rfl rfl ?_
        exact V.iret (pc := 43) C T hs dX5_word_43
      · have hs := o_if c7 hs
        refine V.aload_n (pc := 24) C dX5_word_24 0 rfl ?_
        refine V.getf (pc := 25) C (o := 20) (j := 14) (v := .ref 27) (by decide) rfl rfl inX5 (by decide) (by decide) wf_619 rfl dX5_word_25 ?_
        refine V.iconst (pc := 28) C (v := (4 : Int32)) dX5_word_28 (by decide) ?_
        refine V.iald (pc := 29) C (o := 27) (v := (h4.1 27 4)) (by decide) rfl rfl (by decide) rfl dX5_word_29 ?_
        refine V.iload_n (pc := 30) C dX5_word_30 1 rfl ?_
        refine V.ishr (pc := 31) C dX5_word_31 ?_
        refine V.iconst (pc := 32) C (v := (1 : Int32)) dX5_word_32 (by decide) ?_
        refine V.iand (pc := 33) C dX5_word_33 ?_
        refine V.goto (pc := 34) C (tgt := 43) dX5_word_34 (by decide) ?_
        exact V.iret (pc := 43) C T hs dX5_word_43
    · have hs := o_if c6 hs
      refine V.iconst (pc := 17) C (v := (-1 : Int32)) dX5_word_17 (by decide) ?_
      exact V.iret (pc := 18) C T hs dX5_word_18
abbrev rmX5_isNext : Room := { frames := 0, cells := 0, slots := 0, locals := 0 }
set_option maxRecDepth 20000 in
theorem ct_X5_isNext (l : Launch) {h hf : Hp} {r : Int32} (hs : X5_isNext h = some (r, hf)) : Ct l yX5_isNext (Cond.code yX5_isNext cX5_isNext 1 (some .boolean) :: wsG) rmX5_isNext [.ref 20] h (some (.int r)) hf := by
  refine Ct.of (by decide +kernel) (fun _ => Nat.le_of_ble_eq_true rfl) (fun k C T => ?_)
  unfold X5_isNext at hs
  show V k rmX5_isNext 1 0 [(0, .ref 20)] [] h
  refine V.aload_n (pc := 0) C dX5_isNext_0 0 rfl ?_
  refine V.getf (pc := 1) C (o := 20) (j := 14) (v := .ref 27) (by decide) rfl rfl inX5 (by decide) (by decide) wf_619 rfl dX5_isNext_1 ?_
  refine V.iconst (pc := 4) C (v := (0 : Int32)) dX5_isNext_4 (by decide) ?_
  refine V.iald (pc := 5) C (o := 27) (v := (h.1 27 0)) (by decide) rfl rfl (by decide) rfl dX5_isNext_5 ?_
  refine V.aload_n (pc := 6) C dX5_isNext_6 0 rfl ?_
  refine V.getf (pc := 7) C (o := 20) (j := 5) (v := .ref 24) (by decide) rfl rfl inX5 (by decide) (by decide) wf_610 rfl dX5_isNext_7 ?_
  refine V.iconst (pc := 10) C (v := (0 : Int32)) dX5_isNext_10 (by decide) ?_
  refine V.iald (pc := 11) C (o := 24) (v := (h.1 24 0)) (by decide) rfl rfl (by decide) rfl dX5_isNext_11 ?_
  refine V.icmp_ge (pc := 12) C (tgt := 19) dX5_isNext_12 (by decide) (fun c1 => ?_) (fun c1 => ?_)
  · have hs := o_if c1 hs
    refine V.iconst (pc := 19) C (v := (0 : Int32)) dX5_isNext_19 (by decide) ?_
    exact V.zret (pc := 20) C T (by decide) hs dX5_isNext_20
  · have hs := o_el c1 hs
    refine V.iconst (pc := 15) C (v := (1 : Int32)) dX5_isNext_15 (by decide) ?_
    refine V.goto (pc := 16) C (tgt := 20) dX5_isNext_16 (by decide) ?_
    exact V.zret (pc := 20) C T (by decide) hs dX5_isNext_20
abbrev rmX5_blank : Room := { frames := 0, cells := 0, slots := 0, locals := 0 }
set_option maxRecDepth 20000 in
theorem ct_X5_blank (l : Launch) {h hf : Hp} {r : Int32} (hs : X5_blank h = some (r, hf)) : Ct l yX5_blank (Cond.code yX5_blank cX5_blank 1 (some .int) :: wsG) rmX5_blank [.ref 20] h (some (.int r)) hf := by
  refine Ct.of (by decide +kernel) (fun _ => Nat.le_of_ble_eq_true rfl) (fun k C T => ?_)
  unfold X5_blank at hs
  show V k rmX5_blank 1 0 [(0, .ref 20)] [] h
  refine V.aload_n (pc := 0) C dX5_blank_0 0 rfl ?_
  refine V.getf (pc := 1) C (o := 20) (j := 14) (v := .ref 27) (by decide) rfl rfl inX5 (by decide) (by decide) wf_619 rfl dX5_blank_1 ?_
  refine V.iconst (pc := 4) C (v := (2 : Int32)) dX5_blank_4 (by decide) ?_
  refine V.iald (pc := 5) C (o := 27) (v := (h.1 27 2)) (by decide) rfl rfl (by decide) rfl dX5_blank_5 ?_
  refine V.aload_n (pc := 6) C dX5_blank_6 0 rfl ?_
  refine V.getf (pc := 7) C (o := 20) (j := 4) (v := .ref 23) (by decide) rfl rfl inX5 (by decide) (by decide) wf_609 rfl dX5_blank_7 ?_
  refine V.aload_n (pc := 10) C dX5_blank_10 0 rfl ?_
  refine V.getf (pc := 11) C (o := 20) (j := 14) (v := .ref 27) (by decide) rfl rfl inX5 (by decide) (by decide) wf_619 rfl dX5_blank_11 ?_
  refine V.iconst (pc := 14) C (v := (1 : Int32)) dX5_blank_14 (by decide) ?_
  refine V.iald (pc := 15) C (o := 27) (v := (h.1 27 1)) (by decide) rfl rfl (by decide) rfl dX5_blank_15 ?_
  obtain ⟨v1, ev1, bv1, hs⟩ := o_ld hs
  refine V.iald (pc := 16) C (o := 23) (v := v1) (by decide) rfl rfl bv1 ev1 dX5_blank_16 ?_
  refine V.icmp_ne (pc := 17) C (tgt := 24) dX5_blank_17 (by decide) (fun c2 => ?_) (fun c2 => ?_)
  · have hs := o_el c2 hs
    refine V.iconst (pc := 24) C (v := (1 : Int32)) dX5_blank_24 (by decide) ?_
    exact V.iret (pc := 25) C T hs dX5_blank_25
  · have hs := o_if c2 hs
    refine V.iconst (pc := 20) C (v := (0 : Int32)) dX5_blank_20 (by decide) ?_
    refine V.goto (pc := 21) C (tgt := 25) dX5_blank_21 (by decide) ?_
    exact V.iret (pc := 25) C T hs dX5_blank_25
abbrev rmX5_know : Room := { frames := 0, cells := 0, slots := 0, locals := 0 }
set_option maxRecDepth 20000 in
theorem tb_X5_know_55 {k : KX} (C : Cx k cX5_know RX5 2 rmX5_know) {hf : Hp} (T : Rx k none none hf) {K55 : Int32 → Hp → Option (Hp)} (hK55 : ∀ (x1 : Int32) (h : Hp), K55 x1 h = some hf → V k rmX5_know 2 55 [(0, .ref 20), (1, .int x1)] [] h) (x1 : Int32) (h : Hp) (hs : X5_know_b55 K55 x1 h = some hf) : V k rmX5_know 2 55 [(0, .ref 20), (1, .int x1)] [] h := by
  unfold X5_know_b55 at hs
  refine V.iload_n (pc := 55) C dX5_know_55 1 rfl ?_
  refine V.iconst (pc := 56) C (v := (5 : Int32)) dX5_know_56 (by decide) ?_
  refine V.icmp_ge (pc := 57) C (tgt := 90) dX5_know_57 (by decide) (fun c5 => ?_) (fun c5 => ?_)
  · have hs := o_if c5 hs
    refine V.aload_n (pc := 90) C dX5_know_90 0 rfl ?_
    refine V.getf (pc := 91) C (o := 20) (j := 14) (v := .ref 27) (by decide) rfl rfl inX5 (by decide) (by decide) wf_619 rfl dX5_know_91 ?_
    refine V.iconst (pc := 94) C (v := (5 : Int32)) dX5_know_94 (by decide) ?_
    refine V.dup2 (pc := 95) C dX5_know_95 rfl rfl ?_
    refine V.iald (pc := 96) C (o := 27) (v := (h.1 27 5)) (by decide) rfl rfl (by decide) rfl dX5_know_96 ?_
    refine V.iconst (pc := 97) C (v := (1 : Int32)) dX5_know_97 (by decide) ?_
    refine V.iadd (pc := 98) C dX5_know_98 ?_
    refine V.iast (pc := 99) C (o := 27) (h2 := (sI h 27 5 ((h.1 27 5) + (1 : Int32)))) (by decide) rfl rfl (by decide) rfl dX5_know_99 ?_
    exact V.vret (pc := 100) C T hs dX5_know_100
  · have hs := o_el c5 hs
    refine V.aload_n (pc := 60) C dX5_know_60 0 rfl ?_
    refine V.getf (pc := 61) C (o := 20) (j := 14) (v := .ref 27) (by decide) rfl rfl inX5 (by decide) (by decide) wf_619 rfl dX5_know_61 ?_
    refine V.bipush (pc := 64) C (v := (6 : Int32)) dX5_know_64 (by decide) ?_
    refine V.iconst (pc := 66) C (v := (5 : Int32)) dX5_know_66 (by decide) ?_
    refine V.aload_n (pc := 67) C dX5_know_67 0 rfl ?_
    refine V.getf (pc := 68) C (o := 20) (j := 14) (v := .ref 27) (by decide) rfl rfl inX5 (by decide) (by decide) wf_619 rfl dX5_know_68 ?_
    refine V.iconst (pc := 71) C (v := (5 : Int32)) dX5_know_71 (by decide) ?_
    refine V.iald (pc := 72) C (o := 27) (v := (h.1 27 5)) (by decide) rfl rfl (by decide) rfl dX5_know_72 ?_
    refine V.imul (pc := 73) C dX5_know_73 ?_
    refine V.iadd (pc := 74) C dX5_know_74 ?_
    refine V.iload_n (pc := 75) C dX5_know_75 1 rfl ?_
    refine V.iadd (pc := 76) C dX5_know_76 ?_
    refine V.aload_n (pc := 77) C dX5_know_77 0 rfl ?_
    refine V.getf (pc := 78) C (o := 20) (j := 14) (v := .ref 27) (by decide) rfl rfl inX5 (by decide) (by decide) wf_619 rfl dX5_know_78 ?_
    refine V.iload_n (pc := 81) C dX5_know_81 1 rfl ?_
    obtain ⟨v6, ev6, bv6, hs⟩ := o_ld hs
    refine V.iald (pc := 82) C (o := 27) (v := v6) (by decide) rfl rfl bv6 ev6 dX5_know_82 ?_
    obtain ⟨h7, eh7, bh7, hs⟩ := o_st hs
    refine V.iast (pc := 83) C (o := 27) (h2 := h7) (by decide) rfl rfl bh7 eh7 dX5_know_83 ?_
    refine V.iinc (pc := 84) C (j := 1) (v := (x1 + (1 : Int32))) (lv2 := [(1, .int (x1 + (1 : Int32))), (0, .ref 20)]) dX5_know_84 rfl rfl (by decide) rfl ?_
    refine V.goto (pc := 87) C (tgt := 55) dX5_know_87 (by decide) ?_
    refine V.sub [1, 0] rfl ?_
    exact hK55 _ _ hs
theorem tl_X5_know_55 {k : KX} (C : Cx k cX5_know RX5 2 rmX5_know) {hf : Hp} (T : Rx k none none hf) : ∀ (n : Nat) (x1 : Int32) (h : Hp), X5_know_l55 n x1 h = some hf → V k rmX5_know 2 55 [(0, .ref 20), (1, .int x1)] [] h := by
  intro n
  induction n with
  | zero => intro x1 h hs; cases hs
  | succ n ih => intro x1 h hs; exact tb_X5_know_55 C T ih x1 h hs
set_option maxRecDepth 20000 in
theorem tb_X5_know_53 {k : KX} (C : Cx k cX5_know RX5 2 rmX5_know) {hf : Hp} (T : Rx k none none hf) (h : Hp) (hs : X5_know_b53 h = some hf) : V k rmX5_know 2 53 [(0, .ref 20)] [] h := by
  unfold X5_know_b53 at hs
  refine V.iconst (pc := 53) C (v := (0 : Int32)) dX5_know_53 (by decide) ?_
  refine V.istore_n (pc := 54) C (i := 1) (lv2 := [(1, .int (0 : Int32)), (0, .ref 20)]) dX5_know_54 rfl (by decide) rfl ?_
  refine V.sub [1, 0] rfl ?_
  exact tl_X5_know_55 C T fu _ _ hs
set_option maxRecDepth 20000 in
theorem tb_X5_know_13 {k : KX} (C : Cx k cX5_know RX5 2 rmX5_know) {hf : Hp} (T : Rx k none none hf) {K13 : Int32 → Hp → Option (Hp)} (hK13 : ∀ (x1 : Int32) (h : Hp), K13 x1 h = some hf → V k rmX5_know 2 13 [(0, .ref 20), (1, .int x1)] [] h) (x1 : Int32) (h : Hp) (hs : X5_know_b13 K13 x1 h = some hf) : V k rmX5_know 2 13 [(0, .ref 20), (1, .int x1)] [] h := by
  unfold X5_know_b13 at hs
  refine V.iload_n (pc := 13) C dX5_know_13 1 rfl ?_
  refine V.bipush (pc := 14) C (v := (55 : Int32)) dX5_know_14 (by decide) ?_
  refine V.icmp_ge (pc := 16) C (tgt := 43) dX5_know_16 (by decide) (fun c2 => ?_) (fun c2 => ?_)
  · have hs := o_if c2 hs
    refine V.aload_n (pc := 43) C dX5_know_43 0 rfl ?_
    refine V.getf (pc := 44) C (o := 20) (j := 14) (v := .ref 27) (by decide) rfl rfl inX5 (by decide) (by decide) wf_619 rfl dX5_know_44 ?_
    refine V.iconst (pc := 47) C (v := (5 : Int32)) dX5_know_47 (by decide) ?_
    refine V.dup2 (pc := 48) C dX5_know_48 rfl rfl ?_
    refine V.iald (pc := 49) C (o := 27) (v := (h.1 27 5)) (by decide) rfl rfl (by decide) rfl dX5_know_49 ?_
    refine V.iconst (pc := 50) C (v := (1 : Int32)) dX5_know_50 (by decide) ?_
    refine V.isub (pc := 51) C dX5_know_51 ?_
    refine V.iast (pc := 52) C (o := 27) (h2 := (sI h 27 5 ((h.1 27 5) - (1 : Int32)))) (by decide) rfl rfl (by decide) rfl dX5_know_52 ?_
    refine V.sub [0] rfl ?_
    exact tb_X5_know_53 C T  _ hs
  · have hs := o_el c2 hs
    refine V.aload_n (pc := 19) C dX5_know_19 0 rfl ?_
    refine V.getf (pc := 20) C (o := 20) (j := 14) (v := .ref 27) (by decide) rfl rfl inX5 (by decide) (by decide) wf_619 rfl dX5_know_20 ?_
    refine V.bipush (pc := 23) C (v := (6 : Int32)) dX5_know_23 (by decide) ?_
    refine V.iload_n (pc := 25) C dX5_know_25 1 rfl ?_
    refine V.iadd (pc := 26) C dX5_know_26 ?_
    refine V.aload_n (pc := 27) C dX5_know_27 0 rfl ?_
    refine V.getf (pc := 28) C (o := 20) (j := 14) (v := .ref 27) (by decide) rfl rfl inX5 (by decide) (by decide) wf_619 rfl dX5_know_28 ?_
    refine V.bipush (pc := 31) C (v := (11 : Int32)) dX5_know_31 (by decide) ?_
    refine V.iload_n (pc := 33) C dX5_know_33 1 rfl ?_
    refine V.iadd (pc := 34) C dX5_know_34 ?_
    obtain ⟨v3, ev3, bv3, hs⟩ := o_ld hs
    refine V.iald (pc := 35) C (o := 27) (v := v3) (by decide) rfl rfl bv3 ev3 dX5_know_35 ?_
    obtain ⟨h4, eh4, bh4, hs⟩ := o_st hs
    refine V.iast (pc := 36) C (o := 27) (h2 := h4) (by decide) rfl rfl bh4 eh4 dX5_know_36 ?_
    refine V.iinc (pc := 37) C (j := 1) (v := (x1 + (1 : Int32))) (lv2 := [(1, .int (x1 + (1 : Int32))), (0, .ref 20)]) dX5_know_37 rfl rfl (by decide) rfl ?_
    refine V.goto (pc := 40) C (tgt := 13) dX5_know_40 (by decide) ?_
    refine V.sub [1, 0] rfl ?_
    exact hK13 _ _ hs
theorem tl_X5_know_13 {k : KX} (C : Cx k cX5_know RX5 2 rmX5_know) {hf : Hp} (T : Rx k none none hf) : ∀ (n : Nat) (x1 : Int32) (h : Hp), X5_know_l13 n x1 h = some hf → V k rmX5_know 2 13 [(0, .ref 20), (1, .int x1)] [] h := by
  intro n
  induction n with
  | zero => intro x1 h hs; cases hs
  | succ n ih => intro x1 h hs; exact tb_X5_know_13 C T ih x1 h hs
set_option maxRecDepth 20000 in
theorem ct_X5_know (l : Launch) {h hf : Hp} (hs : X5_know h = some hf) : Ct l yX5_know (Cond.code yX5_know cX5_know 2 none :: wsG) rmX5_know [.ref 20] h none hf := by
  refine Ct.of (by decide +kernel) (fun _ => Nat.le_of_ble_eq_true rfl) (fun k C T => ?_)
  unfold X5_know at hs
  show V k rmX5_know 2 0 [(0, .ref 20)] [] h
  refine V.aload_n (pc := 0) C dX5_know_0 0 rfl ?_
  refine V.getf (pc := 1) C (o := 20) (j := 14) (v := .ref 27) (by decide) rfl rfl inX5 (by decide) (by decide) wf_619 rfl dX5_know_1 ?_
  refine V.iconst (pc := 4) C (v := (5 : Int32)) dX5_know_4 (by decide) ?_
  refine V.iald (pc := 5) C (o := 27) (v := (h.1 27 5)) (by decide) rfl rfl (by decide) rfl dX5_know_5 ?_
  refine V.bipush (pc := 6) C (v := (12 : Int32)) dX5_know_6 (by decide) ?_
  refine V.icmp_ne (pc := 8) C (tgt := 53) dX5_know_8 (by decide) (fun c1 => ?_) (fun c1 => ?_)
  · have hs := o_el c1 hs
    refine V.sub [0] rfl ?_
    exact tb_X5_know_53 C T  _ hs
  · have hs := o_if c1 hs
    refine V.iconst (pc := 11) C (v := (0 : Int32)) dX5_know_11 (by decide) ?_
    refine V.istore_n (pc := 12) C (i := 1) (lv2 := [(1, .int (0 : Int32)), (0, .ref 20)]) dX5_know_12 rfl (by decide) rfl ?_
    refine V.sub [1, 0] rfl ?_
    exact tl_X5_know_13 C T fu _ _ hs
abbrev rmX5_put : Room := { frames := 1, cells := 0, slots := 0, locals := 21 }
set_option maxRecDepth 20000 in
theorem ct_X5_put (l : Launch) {x1 : Int32} {h hf : Hp} {r : Int32} (hs : X5_put x1 h = some (r, hf)) : Ct l yX5_put (Cond.code yX5_put cX5_put 3 (some .int) :: wsG) rmX5_put [.ref 20, .int x1] h (some (.int r)) hf := by
  refine Ct.of (by decide +kernel) (fun _ => Nat.le_of_ble_eq_true rfl) (fun k C T => ?_)
  unfold X5_put at hs
  show V k rmX5_put 3 0 [(0, .ref 20), (1, .int x1)] [] h
  refine V.iload_n (pc := 0) C dX5_put_0 1 rfl ?_
  refine V.aload_n (pc := 1) C dX5_put_1 0 rfl ?_
  obtain ⟨v2, h1, ch1, hs⟩ := o_b2 hs
  refine V.callV (pc := 2) C (o := 20) (rm := rmX5_blank) (y := yX5_blank) (bytes := cX5_blank) (maxL := 1) (ret := (some .int)) (n := 0) (As := []) (rest := [.int x1]) (rv := (some (.int v2))) (h1 := h1) (st0 := [.ref 20, .int x1]) (st2 := [.int v2, .int x1]) (by decide) rfl rfl (ct_X5_blank (kL k) ch1) wf_760 wf_762 wf_33 wf_54 wf_763 rfl rfl (by decide +kernel) ⟨by decide, by decide⟩ rfl (Nat.le_of_ble_eq_true rfl) dX5_put_2 rfl rfl ?_
  refine V.iadd (pc := 5) C dX5_put_5 ?_
  refine V.aload_n (pc := 6) C dX5_put_6 0 rfl ?_
  refine V.getf (pc := 7) C (o := 20) (j := 14) (v := .ref 27) (by decide) rfl rfl inX5 (by decide) (by decide) wf_619 rfl dX5_put_7 ?_
  refine V.iconst (pc := 10) C (v := (3 : Int32)) dX5_put_10 (by decide) ?_
  refine V.iald (pc := 11) C (o := 27) (v := (h1.1 27 3)) (by decide) rfl rfl (by decide) rfl dX5_put_11 ?_
  refine V.imul (pc := 12) C dX5_put_12 ?_
  refine V.istore_n (pc := 13) C (i := 2) (lv2 := [(2, .int ((x1 + v2) * (h1.1 27 3))), (0, .ref 20), (1, .int x1)]) dX5_put_13 rfl (by decide) rfl ?_
  refine V.iload_n (pc := 14) C dX5_put_14 0 rfl ?_
  refine V.aload_n (pc := 15) C dX5_put_15 1 rfl ?_
  refine V.getf (pc := 16) C (o := 20) (j := 14) (v := .ref 27) (by decide) rfl rfl inX5 (by decide) (by decide) wf_619 rfl dX5_put_16 ?_
  refine V.iconst (pc := 19) C (v := (2 : Int32)) dX5_put_19 (by decide) ?_
  refine V.iald (pc := 20) C (o := 27) (v := (h1.1 27 2)) (by decide) rfl rfl (by decide) rfl dX5_put_20 ?_
  refine V.icmp_le (pc := 21) C (tgt := 27) dX5_put_21 (by decide) (fun c3 => ?_) (fun c3 => ?_)
  · have hs := o_if c3 hs
    refine V.aload_n (pc := 27) C dX5_put_27 1 rfl ?_
    obtain ⟨h4, ch4, hs⟩ := o_bind hs
    refine V.callV (pc := 28) C (o := 20) (rm := rmX5_know) (y := yX5_know) (bytes := cX5_know) (maxL := 2) (ret := none) (n := 0) (As := []) (rest := []) (rv := none) (h1 := h4) (st0 := [.ref 20]) (st2 := []) (by decide) rfl rfl (ct_X5_know (kL k) ch4) wf_764 wf_766 wf_34 wf_54 wf_767 rfl rfl (by decide +kernel) ⟨by decide, by decide⟩ rfl (Nat.le_of_ble_eq_true rfl) dX5_put_28 rfl rfl ?_
    refine V.aload_n (pc := 31) C dX5_put_31 1 rfl ?_
    refine V.getf (pc := 32) C (o := 20) (j := 14) (v := .ref 27) (by decide) rfl rfl inX5 (by decide) (by decide) wf_619 rfl dX5_put_32 ?_
    refine V.iconst (pc := 35) C (v := (2 : Int32)) dX5_put_35 (by decide) ?_
    refine V.dup2 (pc := 36) C dX5_put_36 rfl rfl ?_
    refine V.iald (pc := 37) C (o := 27) (v := (h4.1 27 2)) (by decide) rfl rfl (by decide) rfl dX5_put_37 ?_
    refine V.iload_n (pc := 38) C dX5_put_38 0 rfl ?_
    refine V.isub (pc := 39) C dX5_put_39 ?_
    refine V.iast (pc := 40) C (o := 27) (h2 := (sI h4 27 2 ((h4.1 27 2) - ((x1 + v2) * (h1.1 27 3))))) (by decide) rfl rfl (by decide) rfl dX5_put_40 ?_
    refine V.aload_n (pc := 41) C dX5_put_41 1 rfl ?_
    refine V.getf (pc := 42) C (o := 20) (j := 14) (v := .ref 27) (by decide) rfl rfl inX5 (by decide) (by decide) wf_619 rfl dX5_put_42 ?_
    refine V.iconst (pc := 45) C (v := (0 : Int32)) dX5_put_45 (by decide) ?_
    refine V.dup2 (pc := 46) C dX5_put_46 rfl rfl ?_
    refine V.iald (pc := 47) C (o := 27) (v := (h4.1 27 0)) (by decide) rfl rfl (by decide) rfl dX5_put_47 ?_
    refine V.iconst (pc := 48) C (v := (1 : Int32)) dX5_put_48 (by decide) ?_
    refine V.iadd (pc := 49) C dX5_put_49 ?_
    refine V.iast (pc := 50) C (o := 27) (h2 := (sI (sI h4 27 2 ((h4.1 27 2) - ((x1 + v2) * (h1.1 27 3)))) 27 0 ((h4.1 27 0) + (1 : Int32)))) (by decide) rfl rfl (by decide) rfl dX5_put_50 ?_
    refine V.aload_n (pc := 51) C dX5_put_51 1 rfl ?_
    refine V.getf (pc := 52) C (o := 20) (j := 14) (v := .ref 27) (by decide) rfl rfl inX5 (by decide) (by decide) wf_619 rfl dX5_put_52 ?_
    refine V.iconst (pc := 55) C (v := (2 : Int32)) dX5_put_55 (by decide) ?_
    refine V.iald (pc := 56) C (o := 27) (v := ((h4.1 27 2) - ((x1 + v2) * (h1.1 27 3)))) (by decide) rfl rfl (by decide) rfl dX5_put_56 ?_
    exact V.iret (pc := 57) C T hs dX5_put_57
  · have hs := o_el c3 hs
    refine V.bipush (pc := 24) C (v := (-2 : Int32)) dX5_put_24 (by decide) ?_
    exact V.iret (pc := 26) C T hs dX5_put_26
abbrev rmX5_writes : Room := { frames := 2, cells := 0, slots := 0, locals := 43 }
set_option maxRecDepth 20000 in
theorem ct_X5_writes (l : Launch) {h hf : Hp} {r : Int32} (hs : X5_writes h = some (r, hf)) : Ct l yX5_writes (Cond.code yX5_writes cX5_writes 1 (some .int) :: wsG) rmX5_writes [.ref 20] h (some (.int r)) hf := by
  refine Ct.of (by decide +kernel) (fun _ => Nat.le_of_ble_eq_true rfl) (fun k C T => ?_)
  unfold X5_writes at hs
  show V k rmX5_writes 1 0 [(0, .ref 20)] [] h
  refine V.aload_n (pc := 0) C dX5_writes_0 0 rfl ?_
  obtain ⟨v2, h1, ch1, hs⟩ := o_b2 hs
  refine V.callV (pc := 1) C (o := 20) (rm := rmX5_isNext) (y := yX5_isNext) (bytes := cX5_isNext) (maxL := 1) (ret := (some .boolean)) (n := 0) (As := []) (rest := []) (rv := (some (.int v2))) (h1 := h1) (st0 := [.ref 20]) (st2 := [.int v2]) (by decide) rfl rfl (ct_X5_isNext (kL k) ch1) wf_752 wf_754 wf_31 wf_54 wf_755 rfl rfl (by decide +kernel) ⟨by decide, by decide⟩ rfl (Nat.le_of_ble_eq_true rfl) dX5_writes_1 rfl rfl ?_
  refine V.if_eq (pc := 4) C (tgt := 34) dX5_writes_4 (by decide) (fun c3 => ?_) (fun c3 => ?_)
  · have hs := o_if c3 hs
    refine V.bipush (pc := 34) C (v := (-2 : Int32)) dX5_writes_34 (by decide) ?_
    exact V.iret (pc := 36) C T hs dX5_writes_36
  · have hs := o_el c3 hs
    refine V.aload_n (pc := 7) C dX5_writes_7 0 rfl ?_
    refine V.getf (pc := 8) C (o := 20) (j := 3) (v := .ref 22) (by decide) rfl rfl inX5 (by decide) (by decide) wf_608 rfl dX5_writes_8 ?_
    refine V.iconst (pc := 11) C (v := (0 : Int32)) dX5_writes_11 (by decide) ?_
    refine V.iald (pc := 12) C (o := 22) (v := (h1.1 22 0)) (by decide) rfl rfl (by decide) rfl dX5_writes_12 ?_
    refine V.if_le (pc := 13) C (tgt := 34) dX5_writes_13 (by decide) (fun c4 => ?_) (fun c4 => ?_)
    · have hs := o_if c4 hs
      refine V.bipush (pc := 34) C (v := (-2 : Int32)) dX5_writes_34 (by decide) ?_
      exact V.iret (pc := 36) C T hs dX5_writes_36
    · have hs := o_el c4 hs
      refine V.aload_n (pc := 16) C dX5_writes_16 0 rfl ?_
      refine V.aload_n (pc := 17) C dX5_writes_17 0 rfl ?_
      refine V.aload_n (pc := 18) C dX5_writes_18 0 rfl ?_
      refine V.getf (pc := 19) C (o := 20) (j := 14) (v := .ref 27) (by decide) rfl rfl inX5 (by decide) (by decide) wf_619 rfl dX5_writes_19 ?_
      refine V.iconst (pc := 22) C (v := (0 : Int32)) dX5_writes_22 (by decide) ?_
      refine V.iald (pc := 23) C (o := 27) (v := (h1.1 27 0)) (by decide) rfl rfl (by decide) rfl dX5_writes_23 ?_
      refine V.iconst (pc := 24) C (v := (0 : Int32)) dX5_writes_24 (by decide) ?_
      obtain ⟨v6, h5, ch5, hs⟩ := o_b2 hs
      refine V.callV (pc := 25) C (o := 20) (rm := rmX5_of) (y := yX5_of) (bytes := cX5_of) (maxL := 3) (ret := (some .int)) (n := 2) (As := [.int (h1.1 27 0), .int (0 : Int32)]) (rest := [.ref 20]) (rv := (some (.int v6))) (h1 := h5) (st0 := [.int (0 : Int32), .int (h1.1 27 0), .ref 20, .ref 20]) (st2 := [.int v6, .ref 20]) (by decide) rfl rfl (ct_X5_of (kL k) ch5) wf_744 wf_746 wf_30 wf_54 wf_747 rfl rfl (by decide +kernel) ⟨by decide, by decide⟩ rfl (Nat.le_of_ble_eq_true rfl) dX5_writes_25 rfl rfl ?_
      obtain ⟨v8, h7, ch7, hs⟩ := o_b2 hs
      refine V.callV (pc := 28) C (o := 20) (rm := rmX5_put) (y := yX5_put) (bytes := cX5_put) (maxL := 3) (ret := (some .int)) (n := 1) (As := [.int v6]) (rest := []) (rv := (some (.int v8))) (h1 := h7) (st0 := [.int v6, .ref 20]) (st2 := [.int v8]) (by decide) rfl rfl (ct_X5_put (kL k) ch7) wf_756 wf_758 wf_32 wf_54 wf_759 rfl rfl (by decide +kernel) ⟨by decide, by decide⟩ rfl (Nat.le_of_ble_eq_true rfl) dX5_writes_28 rfl rfl ?_
      refine V.goto (pc := 31) C (tgt := 36) dX5_writes_31 (by decide) ?_
      exact V.iret (pc := 36) C T hs dX5_writes_36
abbrev rmX5_signs : Room := { frames := 2, cells := 0, slots := 0, locals := 43 }
set_option maxRecDepth 20000 in
theorem ct_X5_signs (l : Launch) {h hf : Hp} {r : Int32} (hs : X5_signs h = some (r, hf)) : Ct l yX5_signs (Cond.code yX5_signs cX5_signs 1 (some .int) :: wsG) rmX5_signs [.ref 20] h (some (.int r)) hf := by
  refine Ct.of (by decide +kernel) (fun _ => Nat.le_of_ble_eq_true rfl) (fun k C T => ?_)
  unfold X5_signs at hs
  show V k rmX5_signs 1 0 [(0, .ref 20)] [] h
  refine V.aload_n (pc := 0) C dX5_signs_0 0 rfl ?_
  obtain ⟨v2, h1, ch1, hs⟩ := o_b2 hs
  refine V.callV (pc := 1) C (o := 20) (rm := rmX5_isNext) (y := yX5_isNext) (bytes := cX5_isNext) (maxL := 1) (ret := (some .boolean)) (n := 0) (As := []) (rest := []) (rv := (some (.int v2))) (h1 := h1) (st0 := [.ref 20]) (st2 := [.int v2]) (by decide) rfl rfl (ct_X5_isNext (kL k) ch1) wf_752 wf_754 wf_31 wf_54 wf_755 rfl rfl (by decide +kernel) ⟨by decide, by decide⟩ rfl (Nat.le_of_ble_eq_true rfl) dX5_signs_1 rfl rfl ?_
  refine V.if_eq (pc := 4) C (tgt := 48) dX5_signs_4 (by decide) (fun c3 => ?_) (fun c3 => ?_)
  · have hs := o_if c3 hs
    refine V.bipush (pc := 48) C (v := (-2 : Int32)) dX5_signs_48 (by decide) ?_
    exact V.iret (pc := 50) C T hs dX5_signs_50
  · have hs := o_el c3 hs
    refine V.aload_n (pc := 7) C dX5_signs_7 0 rfl ?_
    refine V.getf (pc := 8) C (o := 20) (j := 3) (v := .ref 22) (by decide) rfl rfl inX5 (by decide) (by decide) wf_608 rfl dX5_signs_8 ?_
    refine V.iconst (pc := 11) C (v := (0 : Int32)) dX5_signs_11 (by decide) ?_
    refine V.iald (pc := 12) C (o := 22) (v := (h1.1 22 0)) (by decide) rfl rfl (by decide) rfl dX5_signs_12 ?_
    refine V.if_le (pc := 13) C (tgt := 48) dX5_signs_13 (by decide) (fun c4 => ?_) (fun c4 => ?_)
    · have hs := o_if c4 hs
      refine V.bipush (pc := 48) C (v := (-2 : Int32)) dX5_signs_48 (by decide) ?_
      exact V.iret (pc := 50) C T hs dX5_signs_50
    · have hs := o_el c4 hs
      refine V.aload_n (pc := 16) C dX5_signs_16 0 rfl ?_
      refine V.aload_n (pc := 17) C dX5_signs_17 0 rfl ?_
      refine V.getf (pc := 18) C (o := 20) (j := 14) (v := .ref 27) (by decide) rfl rfl inX5 (by decide) (by decide) wf_619 rfl dX5_signs_18 ?_
      refine V.iconst (pc := 21) C (v := (0 : Int32)) dX5_signs_21 (by decide) ?_
      refine V.iald (pc := 22) C (o := 27) (v := (h1.1 27 0)) (by decide) rfl rfl (by decide) rfl dX5_signs_22 ?_
      refine V.iconst (pc := 23) C (v := (3 : Int32)) dX5_signs_23 (by decide) ?_
      obtain ⟨v6, h5, ch5, hs⟩ := o_b2 hs
      refine V.callV (pc := 24) C (o := 20) (rm := rmX5_of) (y := yX5_of) (bytes := cX5_of) (maxL := 3) (ret := (some .int)) (n := 2) (As := [.int (h1.1 27 0), .int (3 : Int32)]) (rest := []) (rv := (some (.int v6))) (h1 := h5) (st0 := [.int (3 : Int32), .int (h1.1 27 0), .ref 20]) (st2 := [.int v6]) (by decide) rfl rfl (ct_X5_of (kL k) ch5) wf_744 wf_746 wf_30 wf_54 wf_747 rfl rfl (by decide +kernel) ⟨by decide, by decide⟩ rfl (Nat.le_of_ble_eq_true rfl) dX5_signs_24 rfl rfl ?_
      refine V.if_le (pc := 27) C (tgt := 48) dX5_signs_27 (by decide) (fun c7 => ?_) (fun c7 => ?_)
      · have hs := o_if c7 hs
        refine V.bipush (pc := 48) C (v := (-2 : Int32)) dX5_signs_48 (by decide) ?_
        exact V.iret (pc := 50) C T hs dX5_signs_50
      · have hs := o_el c7 hs
        refine V.aload_n (pc := 30) C dX5_signs_30 0 rfl ?_
        refine V.aload_n (pc := 31) C dX5_signs_31 0 rfl ?_
        refine V.aload_n (pc := 32) C dX5_signs_32 0 rfl ?_
        refine V.getf (pc := 33) C (o := 20) (j := 14) (v := .ref 27) (by decide) rfl rfl inX5 (by decide) (by decide) wf_619 rfl dX5_signs_33 ?_
        refine V.iconst (pc := 36) C (v := (0 : Int32)) dX5_signs_36 (by decide) ?_
        refine V.iald (pc := 37) C (o := 27) (v := (h5.1 27 0)) (by decide) rfl rfl (by decide) rfl dX5_signs_37 ?_
        refine V.iconst (pc := 38) C (v := (3 : Int32)) dX5_signs_38 (by decide) ?_
        obtain ⟨v9, h8, ch8, hs⟩ := o_b2 hs
        refine V.callV (pc := 39) C (o := 20) (rm := rmX5_of) (y := yX5_of) (bytes := cX5_of) (maxL := 3) (ret := (some .int)) (n := 2) (As := [.int (h5.1 27 0), .int (3 : Int32)]) (rest := [.ref 20]) (rv := (some (.int v9))) (h1 := h8) (st0 := [.int (3 : Int32), .int (h5.1 27 0), .ref 20, .ref 20]) (st2 := [.int v9, .ref 20]) (by decide) rfl rfl (ct_X5_of (kL k) ch8) wf_744 wf_746 wf_30 wf_54 wf_747 rfl rfl (by decide +kernel) ⟨by decide, by decide⟩ rfl (Nat.le_of_ble_eq_true rfl) dX5_signs_39 rfl rfl ?_
        obtain ⟨v11, h10, ch10, hs⟩ := o_b2 hs
        refine V.callV (pc := 42) C (o := 20) (rm := rmX5_put) (y := yX5_put) (bytes := cX5_put) (maxL := 3) (ret := (some .int)) (n := 1) (As := [.int v9]) (rest := []) (rv := (some (.int v11))) (h1 := h10) (st0 := [.int v9, .ref 20]) (st2 := [.int v11]) (by decide) rfl rfl (ct_X5_put (kL k) ch10) wf_756 wf_758 wf_32 wf_54 wf_759 rfl rfl (by decide +kernel) ⟨by decide, by decide⟩ rfl (Nat.le_of_ble_eq_true rfl) dX5_signs_42 rfl rfl ?_
        refine V.goto (pc := 45) C (tgt := 50) dX5_signs_45 (by decide) ?_
        exact V.iret (pc := 50) C T hs dX5_signs_50
abbrev rmX5_breaks : Room := { frames := 2, cells := 0, slots := 0, locals := 43 }
set_option maxRecDepth 20000 in
theorem ct_X5_breaks (l : Launch) {h hf : Hp} {r : Int32} (hs : X5_breaks h = some (r, hf)) : Ct l yX5_breaks (Cond.code yX5_breaks cX5_breaks 4 (some .int) :: wsG) rmX5_breaks [.ref 20] h (some (.int r)) hf := by
  refine Ct.of (by decide +kernel) (fun _ => Nat.le_of_ble_eq_true rfl) (fun k C T => ?_)
  unfold X5_breaks at hs
  show V k rmX5_breaks 4 0 [(0, .ref 20)] [] h
  refine V.aload_n (pc := 0) C dX5_breaks_0 0 rfl ?_
  obtain ⟨v2, h1, ch1, hs⟩ := o_b2 hs
  refine V.callV (pc := 1) C (o := 20) (rm := rmX5_isNext) (y := yX5_isNext) (bytes := cX5_isNext) (maxL := 1) (ret := (some .boolean)) (n := 0) (As := []) (rest := []) (rv := (some (.int v2))) (h1 := h1) (st0 := [.ref 20]) (st2 := [.int v2]) (by decide) rfl rfl (ct_X5_isNext (kL k) ch1) wf_752 wf_754 wf_31 wf_54 wf_755 rfl rfl (by decide +kernel) ⟨by decide, by decide⟩ rfl (Nat.le_of_ble_eq_true rfl) dX5_breaks_1 rfl rfl ?_
  refine V.if_eq (pc := 4) C (tgt := 36) dX5_breaks_4 (by decide) (fun c3 => ?_) (fun c3 => ?_)
  · have hs := o_if c3 hs
    refine V.bipush (pc := 36) C (v := (-2 : Int32)) dX5_breaks_36 (by decide) ?_
    exact V.iret (pc := 38) C T hs dX5_breaks_38
  · have hs := o_el c3 hs
    refine V.aload_n (pc := 7) C dX5_breaks_7 0 rfl ?_
    refine V.aload_n (pc := 8) C dX5_breaks_8 0 rfl ?_
    refine V.getf (pc := 9) C (o := 20) (j := 14) (v := .ref 27) (by decide) rfl rfl inX5 (by decide) (by decide) wf_619 rfl dX5_breaks_9 ?_
    refine V.iconst (pc := 12) C (v := (1 : Int32)) dX5_breaks_12 (by decide) ?_
    refine V.iald (pc := 13) C (o := 27) (v := (h1.1 27 1)) (by decide) rfl rfl (by decide) rfl dX5_breaks_13 ?_
    refine V.iconst (pc := 14) C (v := (1 : Int32)) dX5_breaks_14 (by decide) ?_
    refine V.iadd (pc := 15) C dX5_breaks_15 ?_
    obtain ⟨v5, h4, ch4, hs⟩ := o_b2 hs
    refine V.callV (pc := 16) C (o := 20) (rm := rmX5_isLine) (y := yX5_isLine) (bytes := cX5_isLine) (maxL := 2) (ret := (some .boolean)) (n := 1) (As := [.int ((h1.1 27 1) + (1 : Int32))]) (rest := []) (rv := (some (.int v5))) (h1 := h4) (st0 := [.int ((h1.1 27 1) + (1 : Int32)), .ref 20]) (st2 := [.int v5]) (by decide) rfl rfl (ct_X5_isLine (kL k) ch4) wf_732 wf_734 wf_28 wf_54 wf_735 rfl rfl (by decide +kernel) ⟨by decide, by decide⟩ rfl (Nat.le_of_ble_eq_true rfl) dX5_breaks_16 rfl rfl ?_
    refine V.if_eq (pc := 19) C (tgt := 36) dX5_breaks_19 (by decide) (fun c6 => ?_) (fun c6 => ?_)
    · have hs := o_if c6 hs
      refine V.bipush (pc := 36) C (v := (-2 : Int32)) dX5_breaks_36 (by decide) ?_
      exact V.iret (pc := 38) C T hs dX5_breaks_38
    · have hs := o_el c6 hs
      refine V.aload_n (pc := 22) C dX5_breaks_22 0 rfl ?_
      refine V.aload_n (pc := 23) C dX5_breaks_23 0 rfl ?_
      refine V.getf (pc := 24) C (o := 20) (j := 14) (v := .ref 27) (by decide) rfl rfl inX5 (by decide) (by decide) wf_619 rfl dX5_breaks_24 ?_
      refine V.iconst (pc := 27) C (v := (0 : Int32)) dX5_breaks_27 (by decide) ?_
      refine V.iald (pc := 28) C (o := 27) (v := (h4.1 27 0)) (by decide) rfl rfl (by decide) rfl dX5_breaks_28 ?_
      refine V.iconst (pc := 29) C (v := (4 : Int32)) dX5_breaks_29 (by decide) ?_
      obtain ⟨v8, h7, ch7, hs⟩ := o_b2 hs
      refine V.callV (pc := 30) C (o := 20) (rm := rmX5_of) (y := yX5_of) (bytes := cX5_of) (maxL := 3) (ret := (some .int)) (n := 2) (As := [.int (h4.1 27 0), .int (4 : Int32)]) (rest := []) (rv := (some (.int v8))) (h1 := h7) (st0 := [.int (4 : Int32), .int (h4.1 27 0), .ref 20]) (st2 := [.int v8]) (by decide) rfl rfl (ct_X5_of (kL k) ch7) wf_744 wf_746 wf_30 wf_54 wf_747 rfl rfl (by decide +kernel) ⟨by decide, by decide⟩ rfl (Nat.le_of_ble_eq_true rfl) dX5_breaks_30 rfl rfl ?_
      refine V.if_ne (pc := 33) C (tgt := 39) dX5_breaks_33 (by decide) (fun c9 => ?_) (fun c9 => ?_)
      · have hs := o_el c9 hs
        refine V.aload_n (pc := 39) C dX5_breaks_39 0 rfl ?_
        refine V.aload_n (pc := 40) C dX5_breaks_40 0 rfl ?_
        refine V.getf (pc := 41) C (o := 20) (j := 14) (v := .ref 27) (by decide) rfl rfl inX5 (by decide) (by decide) wf_619 rfl dX5_breaks_41 ?_
        refine V.iconst (pc := 44) C (v := (0 : Int32)) dX5_breaks_44 (by decide) ?_
        refine V.iald (pc := 45) C (o := 27) (v := (h7.1 27 0)) (by decide) rfl rfl (by decide) rfl dX5_breaks_45 ?_
        refine V.iconst (pc := 46) C (v := (4 : Int32)) dX5_breaks_46 (by decide) ?_
        obtain ⟨v11, h10, ch10, hs⟩ := o_b2 hs
        refine V.callV (pc := 47) C (o := 20) (rm := rmX5_of) (y := yX5_of) (bytes := cX5_of) (maxL := 3) (ret := (some .int)) (n := 2) (As := [.int (h7.1 27 0), .int (4 : Int32)]) (rest := []) (rv := (some (.int v11))) (h1 := h10) (st0 := [.int (4 : Int32), .int (h7.1 27 0), .ref 20]) (st2 := [.int v11]) (by decide) rfl rfl (ct_X5_of (kL k) ch10) wf_744 wf_746 wf_30 wf_54 wf_747 rfl rfl (by decide +kernel) ⟨by decide, by decide⟩ rfl (Nat.le_of_ble_eq_true rfl) dX5_breaks_47 rfl rfl ?_
        refine V.istore_n (pc := 50) C (i := 1) (lv2 := [(1, .int v11), (0, .ref 20)]) dX5_breaks_50 rfl (by decide) rfl ?_
        refine V.iload_n (pc := 51) C dX5_breaks_51 0 rfl ?_
        refine V.iconst (pc := 52) C (v := (1 : Int32)) dX5_breaks_52 (by decide) ?_
        refine V.iadd (pc := 53) C dX5_breaks_53 ?_
        refine V.aload_n (pc := 54) C dX5_breaks_54 1 rfl ?_
        obtain ⟨v13, h12, ch12, hs⟩ := o_b2 hs
        refine V.callV (pc := 55) C (o := 20) (rm := rmX5_blank) (y := yX5_blank) (bytes := cX5_blank) (maxL := 1) (ret := (some .int)) (n := 0) (As := []) (rest := [.int (v11 + (1 : Int32))]) (rv := (some (.int v13))) (h1 := h12) (st0 := [.ref 20, .int (v11 + (1 : Int32))]) (st2 := [.int v13, .int (v11 + (1 : Int32))]) (by decide) rfl rfl (ct_X5_blank (kL k) ch12) wf_760 wf_762 wf_33 wf_54 wf_763 rfl rfl (by decide +kernel) ⟨by decide, by decide⟩ rfl (Nat.le_of_ble_eq_true rfl) dX5_breaks_55 rfl rfl ?_
        refine V.iadd (pc := 58) C dX5_breaks_58 ?_
        refine V.aload_n (pc := 59) C dX5_breaks_59 1 rfl ?_
        refine V.getf (pc := 60) C (o := 20) (j := 14) (v := .ref 27) (by decide) rfl rfl inX5 (by decide) (by decide) wf_619 rfl dX5_breaks_60 ?_
        refine V.iconst (pc := 63) C (v := (3 : Int32)) dX5_breaks_63 (by decide) ?_
        refine V.iald (pc := 64) C (o := 27) (v := (h12.1 27 3)) (by decide) rfl rfl (by decide) rfl dX5_breaks_64 ?_
        refine V.imul (pc := 65) C dX5_breaks_65 ?_
        refine V.istore_n (pc := 66) C (i := 2) (lv2 := [(2, .int (((v11 + (1 : Int32)) + v13) * (h12.1 27 3))), (1, .int v11), (0, .ref 20)]) dX5_breaks_66 rfl (by decide) rfl ?_
        refine V.aload_n (pc := 67) C dX5_breaks_67 2 rfl ?_
        refine V.aload_n (pc := 68) C dX5_breaks_68 2 rfl ?_
        refine V.getf (pc := 69) C (o := 20) (j := 14) (v := .ref 27) (by decide) rfl rfl inX5 (by decide) (by decide) wf_619 rfl dX5_breaks_69 ?_
        refine V.iconst (pc := 72) C (v := (0 : Int32)) dX5_breaks_72 (by decide) ?_
        refine V.iald (pc := 73) C (o := 27) (v := (h12.1 27 0)) (by decide) rfl rfl (by decide) rfl dX5_breaks_73 ?_
        refine V.iconst (pc := 74) C (v := (0 : Int32)) dX5_breaks_74 (by decide) ?_
        obtain ⟨v15, h14, ch14, hs⟩ := o_b2 hs
        refine V.callV (pc := 75) C (o := 20) (rm := rmX5_of) (y := yX5_of) (bytes := cX5_of) (maxL := 3) (ret := (some .int)) (n := 2) (As := [.int (h12.1 27 0), .int (0 : Int32)]) (rest := []) (rv := (some (.int v15))) (h1 := h14) (st0 := [.int (0 : Int32), .int (h12.1 27 0), .ref 20]) (st2 := [.int v15]) (by decide) rfl rfl (ct_X5_of (kL k) ch14) wf_744 wf_746 wf_30 wf_54 wf_747 rfl rfl (by decide +kernel) ⟨by decide, by decide⟩ rfl (Nat.le_of_ble_eq_true rfl) dX5_breaks_75 rfl rfl ?_
        refine V.iload_n (pc := 78) C dX5_breaks_78 1 rfl ?_
        refine V.isub (pc := 79) C dX5_breaks_79 ?_
        refine V.aload_n (pc := 80) C dX5_breaks_80 2 rfl ?_
        refine V.getf (pc := 81) C (o := 20) (j := 14) (v := .ref 27) (by decide) rfl rfl inX5 (by decide) (by decide) wf_619 rfl dX5_breaks_81 ?_
        refine V.iconst (pc := 84) C (v := (3 : Int32)) dX5_breaks_84 (by decide) ?_
        refine V.iald (pc := 85) C (o := 27) (v := (h14.1 27 3)) (by decide) rfl rfl (by decide) rfl dX5_breaks_85 ?_
        refine V.imul (pc := 86) C dX5_breaks_86 ?_
        refine V.istore_n (pc := 87) C (i := 3) (lv2 := [(3, .int ((v15 - v11) * (h14.1 27 3))), (2, .int (((v11 + (1 : Int32)) + v13) * (h12.1 27 3))), (1, .int v11), (0, .ref 20)]) dX5_breaks_87 rfl (by decide) rfl ?_
        refine V.iload_n (pc := 88) C dX5_breaks_88 1 rfl ?_
        refine V.aload_n (pc := 89) C dX5_breaks_89 3 rfl ?_
        refine V.getf (pc := 90) C (o := 20) (j := 14) (v := .ref 27) (by decide) rfl rfl inX5 (by decide) (by decide) wf_619 rfl dX5_breaks_90 ?_
        refine V.iconst (pc := 93) C (v := (2 : Int32)) dX5_breaks_93 (by decide) ?_
        refine V.iald (pc := 94) C (o := 27) (v := (h14.1 27 2)) (by decide) rfl rfl (by decide) rfl dX5_breaks_94 ?_
        refine V.icmp_gt (pc := 95) C (tgt := 115) dX5_breaks_95 (by decide) (fun c16 => ?_) (fun c16 => ?_)
        · have hs := o_if c16 hs
          refine V.bipush (pc := 115) C (v := (-2 : Int32)) dX5_breaks_115 (by decide) ?_
          exact V.iret (pc := 117) C T hs dX5_breaks_117
        · have hs := o_el c16 hs
          refine V.iload_n (pc := 98) C dX5_breaks_98 0 rfl ?_
          refine V.aload_n (pc := 99) C dX5_breaks_99 3 rfl ?_
          refine V.getf (pc := 100) C (o := 20) (j := 4) (v := .ref 23) (by decide) rfl rfl inX5 (by decide) (by decide) wf_609 rfl dX5_breaks_100 ?_
          refine V.aload_n (pc := 103) C dX5_breaks_103 3 rfl ?_
          refine V.getf (pc := 104) C (o := 20) (j := 14) (v := .ref 27) (by decide) rfl rfl inX5 (by decide) (by decide) wf_619 rfl dX5_breaks_104 ?_
          refine V.iconst (pc := 107) C (v := (1 : Int32)) dX5_breaks_107 (by decide) ?_
          refine V.iald (pc := 108) C (o := 27) (v := (h14.1 27 1)) (by decide) rfl rfl (by decide) rfl dX5_breaks_108 ?_
          refine V.iconst (pc := 109) C (v := (1 : Int32)) dX5_breaks_109 (by decide) ?_
          refine V.iadd (pc := 110) C dX5_breaks_110 ?_
          obtain ⟨v17, ev17, bv17, hs⟩ := o_ld hs
          refine V.iald (pc := 111) C (o := 23) (v := v17) (by decide) rfl rfl bv17 ev17 dX5_breaks_111 ?_
          refine V.icmp_le (pc := 112) C (tgt := 118) dX5_breaks_112 (by decide) (fun c18 => ?_) (fun c18 => ?_)
          · have hs := o_if c18 hs
            refine V.aload_n (pc := 118) C dX5_breaks_118 3 rfl ?_
            obtain ⟨h19, ch19, hs⟩ := o_bind hs
            refine V.callV (pc := 119) C (o := 20) (rm := rmX5_know) (y := yX5_know) (bytes := cX5_know) (maxL := 2) (ret := none) (n := 0) (As := []) (rest := []) (rv := none) (h1 := h19) (st0 := [.ref 20]) (st2 := []) (by decide) rfl rfl (ct_X5_know (kL k) ch19) wf_764 wf_766 wf_34 wf_54 wf_767 rfl rfl (by decide +kernel) ⟨by decide, by decide⟩ rfl (Nat.le_of_ble_eq_true rfl) dX5_breaks_119 rfl rfl ?_
            refine V.aload_n (pc := 122) C dX5_breaks_122 3 rfl ?_
            refine V.getf (pc := 123) C (o := 20) (j := 14) (v := .ref 27) (by decide) rfl rfl inX5 (by decide) (by decide) wf_619 rfl dX5_breaks_123 ?_
            refine V.iconst (pc := 126) C (v := (1 : Int32)) dX5_breaks_126 (by decide) ?_
            refine V.dup2 (pc := 127) C dX5_breaks_127 rfl rfl ?_
            refine V.iald (pc := 128) C (o := 27) (v := (h19.1 27 1)) (by decide) rfl rfl (by decide) rfl dX5_breaks_128 ?_
            refine V.iconst (pc := 129) C (v := (1 : Int32)) dX5_breaks_129 (by decide) ?_
            refine V.iadd (pc := 130) C dX5_breaks_130 ?_
            refine V.iast (pc := 131) C (o := 27) (h2 := (sI h19 27 1 ((h19.1 27 1) + (1 : Int32)))) (by decide) rfl rfl (by decide) rfl dX5_breaks_131 ?_
            refine V.aload_n (pc := 132) C dX5_breaks_132 3 rfl ?_
            refine V.getf (pc := 133) C (o := 20) (j := 14) (v := .ref 27) (by decide) rfl rfl inX5 (by decide) (by decide) wf_619 rfl dX5_breaks_133 ?_
            refine V.iconst (pc := 136) C (v := (2 : Int32)) dX5_breaks_136 (by decide) ?_
            refine V.aload_n (pc := 137) C dX5_breaks_137 3 rfl ?_
            refine V.getf (pc := 138) C (o := 20) (j := 4) (v := .ref 23) (by decide) rfl rfl inX5 (by decide) (by decide) wf_609 rfl dX5_breaks_138 ?_
            refine V.aload_n (pc := 141) C dX5_breaks_141 3 rfl ?_
            refine V.getf (pc := 142) C (o := 20) (j := 14) (v := .ref 27) (by decide) rfl rfl inX5 (by decide) (by decide) wf_619 rfl dX5_breaks_142 ?_
            refine V.iconst (pc := 145) C (v := (1 : Int32)) dX5_breaks_145 (by decide) ?_
            refine V.iald (pc := 146) C (o := 27) (v := ((h19.1 27 1) + (1 : Int32))) (by decide) rfl rfl (by decide) rfl dX5_breaks_146 ?_
            obtain ⟨v20, ev20, bv20, hs⟩ := o_ld hs
            refine V.iald (pc := 147) C (o := 23) (v := v20) (by decide) rfl rfl bv20 ev20 dX5_breaks_147 ?_
            refine V.iload_n (pc := 148) C dX5_breaks_148 0 rfl ?_
            refine V.isub (pc := 149) C dX5_breaks_149 ?_
            refine V.iast (pc := 150) C (o := 27) (h2 := (sI (sI h19 27 1 ((h19.1 27 1) + (1 : Int32))) 27 2 (v20 - ((v15 - v11) * (h14.1 27 3))))) (by decide) rfl rfl (by decide) rfl dX5_breaks_150 ?_
            refine V.aload_n (pc := 151) C dX5_breaks_151 3 rfl ?_
            refine V.getf (pc := 152) C (o := 20) (j := 14) (v := .ref 27) (by decide) rfl rfl inX5 (by decide) (by decide) wf_619 rfl dX5_breaks_152 ?_
            refine V.iconst (pc := 155) C (v := (0 : Int32)) dX5_breaks_155 (by decide) ?_
            refine V.dup2 (pc := 156) C dX5_breaks_156 rfl rfl ?_
            refine V.iald (pc := 157) C (o := 27) (v := (h19.1 27 0)) (by decide) rfl rfl (by decide) rfl dX5_breaks_157 ?_
            refine V.iconst (pc := 158) C (v := (1 : Int32)) dX5_breaks_158 (by decide) ?_
            refine V.iadd (pc := 159) C dX5_breaks_159 ?_
            refine V.iast (pc := 160) C (o := 27) (h2 := (sI (sI (sI h19 27 1 ((h19.1 27 1) + (1 : Int32))) 27 2 (v20 - ((v15 - v11) * (h14.1 27 3)))) 27 0 ((h19.1 27 0) + (1 : Int32)))) (by decide) rfl rfl (by decide) rfl dX5_breaks_160 ?_
            refine V.aload_n (pc := 161) C dX5_breaks_161 3 rfl ?_
            refine V.getf (pc := 162) C (o := 20) (j := 14) (v := .ref 27) (by decide) rfl rfl inX5 (by decide) (by decide) wf_619 rfl dX5_breaks_162 ?_
            refine V.iconst (pc := 165) C (v := (2 : Int32)) dX5_breaks_165 (by decide) ?_
            refine V.iald (pc := 166) C (o := 27) (v := (v20 - ((v15 - v11) * (h14.1 27 3)))) (by decide) rfl rfl (by decide) rfl dX5_breaks_166 ?_
            exact V.iret (pc := 167) C T hs dX5_breaks_167
          · have hs := o_el c18 hs
            refine V.bipush (pc := 115) C (v := (-2 : Int32)) dX5_breaks_115 (by decide) ?_
            exact V.iret (pc := 117) C T hs dX5_breaks_117
      · have hs := o_if c9 hs
        refine V.bipush (pc := 36) C (v := (-2 : Int32)) dX5_breaks_36 (by decide) ?_
        exact V.iret (pc := 38) C T hs dX5_breaks_38
abbrev rmX5_manyOf : Room := { frames := 0, cells := 0, slots := 0, locals := 0 }
set_option maxRecDepth 20000 in
theorem tb_X5_manyOf_4 {k : KX} (C : Cx k cX5_manyOf RX5 3 rmX5_manyOf) {r : Int32} {hf : Hp} (T : Rx k (some .int) (some (.int r)) hf) {K4 : Int32 → Int32 → Int32 → Hp → Option (Int32 × Hp)} (hK4 : ∀ (x0 : Int32) (x1 : Int32) (x2 : Int32) (h : Hp), K4 x0 x1 x2 h = some (r, hf) → V k rmX5_manyOf 3 4 [(0, .int x0), (1, .int x1), (2, .int x2)] [] h) (x0 : Int32) (x1 : Int32) (x2 : Int32) (h : Hp) (hs : X5_manyOf_b4 K4 x0 x1 x2 h = some (r, hf)) : V k rmX5_manyOf 3 4 [(0, .int x0), (1, .int x1), (2, .int x2)] [] h := by
  unfold X5_manyOf_b4 at hs
  refine V.iload_n (pc := 4) C dX5_manyOf_4 2 rfl ?_
  refine V.bipush (pc := 5) C (v := (10 : Int32)) dX5_manyOf_5 (by decide) ?_
  refine V.icmp_ge (pc := 7) C (tgt := 24) dX5_manyOf_7 (by decide) (fun c1 => ?_) (fun c1 => ?_)
  · have hs := o_if c1 hs
    refine V.iload_n (pc := 24) C dX5_manyOf_24 1 rfl ?_
    exact V.iret (pc := 25) C T hs dX5_manyOf_25
  · have hs := o_el c1 hs
    refine V.iload_n (pc := 10) C dX5_manyOf_10 1 rfl ?_
    refine V.iload_n (pc := 11) C dX5_manyOf_11 0 rfl ?_
    refine V.iload_n (pc := 12) C dX5_manyOf_12 2 rfl ?_
    refine V.ishr (pc := 13) C dX5_manyOf_13 ?_
    refine V.iconst (pc := 14) C (v := (1 : Int32)) dX5_manyOf_14 (by decide) ?_
    refine V.iand (pc := 15) C dX5_manyOf_15 ?_
    refine V.iadd (pc := 16) C dX5_manyOf_16 ?_
    refine V.istore_n (pc := 17) C (i := 1) (lv2 := [(1, .int (x1 + ((x0 >>> (x2 &&& 31)) &&& (1 : Int32)))), (0, .int x0), (2, .int x2)]) dX5_manyOf_17 rfl (by decide) rfl ?_
    refine V.iinc (pc := 18) C (j := 2) (v := (x2 + (1 : Int32))) (lv2 := [(2, .int (x2 + (1 : Int32))), (1, .int (x1 + ((x0 >>> (x2 &&& 31)) &&& (1 : Int32)))), (0, .int x0)]) dX5_manyOf_18 rfl rfl (by decide) rfl ?_
    refine V.goto (pc := 21) C (tgt := 4) dX5_manyOf_21 (by decide) ?_
    refine V.sub [2, 1, 0] rfl ?_
    exact hK4 _ _ _ _ hs
theorem tl_X5_manyOf_4 {k : KX} (C : Cx k cX5_manyOf RX5 3 rmX5_manyOf) {r : Int32} {hf : Hp} (T : Rx k (some .int) (some (.int r)) hf) : ∀ (n : Nat) (x0 : Int32) (x1 : Int32) (x2 : Int32) (h : Hp), X5_manyOf_l4 n x0 x1 x2 h = some (r, hf) → V k rmX5_manyOf 3 4 [(0, .int x0), (1, .int x1), (2, .int x2)] [] h := by
  intro n
  induction n with
  | zero => intro x0 x1 x2 h hs; cases hs
  | succ n ih => intro x0 x1 x2 h hs; exact tb_X5_manyOf_4 C T ih x0 x1 x2 h hs
set_option maxRecDepth 20000 in
theorem ct_X5_manyOf (l : Launch) {x0 : Int32} {h hf : Hp} {r : Int32} (hs : X5_manyOf x0 h = some (r, hf)) : Ct l yX5_manyOf (Cond.code yX5_manyOf cX5_manyOf 3 (some .int) :: wsG) rmX5_manyOf [.int x0] h (some (.int r)) hf := by
  refine Ct.of (by decide +kernel) (fun _ => Nat.le_of_ble_eq_true rfl) (fun k C T => ?_)
  unfold X5_manyOf at hs
  show V k rmX5_manyOf 3 0 [(0, .int x0)] [] h
  refine V.iconst (pc := 0) C (v := (0 : Int32)) dX5_manyOf_0 (by decide) ?_
  refine V.istore_n (pc := 1) C (i := 1) (lv2 := [(1, .int (0 : Int32)), (0, .int x0)]) dX5_manyOf_1 rfl (by decide) rfl ?_
  refine V.iconst (pc := 2) C (v := (0 : Int32)) dX5_manyOf_2 (by decide) ?_
  refine V.istore_n (pc := 3) C (i := 2) (lv2 := [(2, .int (0 : Int32)), (1, .int (0 : Int32)), (0, .int x0)]) dX5_manyOf_3 rfl (by decide) rfl ?_
  refine V.sub [2, 1, 0] rfl ?_
  exact tl_X5_manyOf_4 C T fu _ _ _ _ hs
abbrev rmX5_omits : Room := { frames := 1, cells := 0, slots := 0, locals := 22 }
set_option maxRecDepth 20000 in
theorem ct_X5_omits (l : Launch) {h hf : Hp} {r : Int32} (hs : X5_omits h = some (r, hf)) : Ct l yX5_omits (Cond.code yX5_omits cX5_omits 1 (some .int) :: wsG) rmX5_omits [.ref 20] h (some (.int r)) hf := by
  refine Ct.of (by decide +kernel) (fun _ => Nat.le_of_ble_eq_true rfl) (fun k C T => ?_)
  unfold X5_omits at hs
  show V k rmX5_omits 1 0 [(0, .ref 20)] [] h
  refine V.aload_n (pc := 0) C dX5_omits_0 0 rfl ?_
  obtain ⟨v2, h1, ch1, hs⟩ := o_b2 hs
  refine V.callV (pc := 1) C (o := 20) (rm := rmX5_isNext) (y := yX5_isNext) (bytes := cX5_isNext) (maxL := 1) (ret := (some .boolean)) (n := 0) (As := []) (rest := []) (rv := (some (.int v2))) (h1 := h1) (st0 := [.ref 20]) (st2 := [.int v2]) (by decide) rfl rfl (ct_X5_isNext (kL k) ch1) wf_752 wf_754 wf_31 wf_54 wf_755 rfl rfl (by decide +kernel) ⟨by decide, by decide⟩ rfl (Nat.le_of_ble_eq_true rfl) dX5_omits_1 rfl rfl ?_
  refine V.if_ne (pc := 4) C (tgt := 10) dX5_omits_4 (by decide) (fun c3 => ?_) (fun c3 => ?_)
  · have hs := o_el c3 hs
    refine V.aload_n (pc := 10) C dX5_omits_10 0 rfl ?_
    obtain ⟨h4, ch4, hs⟩ := o_bind hs
    refine V.callV (pc := 11) C (o := 20) (rm := rmX5_know) (y := yX5_know) (bytes := cX5_know) (maxL := 2) (ret := none) (n := 0) (As := []) (rest := []) (rv := none) (h1 := h4) (st0 := [.ref 20]) (st2 := []) (by decide) rfl rfl (ct_X5_know (kL k) ch4) wf_764 wf_766 wf_34 wf_54 wf_767 rfl rfl (by decide +kernel) ⟨by decide, by decide⟩ rfl (Nat.le_of_ble_eq_true rfl) dX5_omits_11 rfl rfl ?_
    refine V.aload_n (pc := 14) C dX5_omits_14 0 rfl ?_
    refine V.getf (pc := 15) C (o := 20) (j := 14) (v := .ref 27) (by decide) rfl rfl inX5 (by decide) (by decide) wf_619 rfl dX5_omits_15 ?_
    refine V.iconst (pc := 18) C (v := (4 : Int32)) dX5_omits_18 (by decide) ?_
    refine V.dup2 (pc := 19) C dX5_omits_19 rfl rfl ?_
    refine V.iald (pc := 20) C (o := 27) (v := (h4.1 27 4)) (by decide) rfl rfl (by decide) rfl dX5_omits_20 ?_
    refine V.iconst (pc := 21) C (v := (1 : Int32)) dX5_omits_21 (by decide) ?_
    refine V.aload_n (pc := 22) C dX5_omits_22 0 rfl ?_
    refine V.getf (pc := 23) C (o := 20) (j := 14) (v := .ref 27) (by decide) rfl rfl inX5 (by decide) (by decide) wf_619 rfl dX5_omits_23 ?_
    refine V.iconst (pc := 26) C (v := (0 : Int32)) dX5_omits_26 (by decide) ?_
    refine V.iald (pc := 27) C (o := 27) (v := (h4.1 27 0)) (by decide) rfl rfl (by decide) rfl dX5_omits_27 ?_
    refine V.ishl (pc := 28) C dX5_omits_28 ?_
    refine V.ior (pc := 29) C dX5_omits_29 ?_
    refine V.iast (pc := 30) C (o := 27) (h2 := (sI h4 27 4 ((h4.1 27 4) ||| ((1 : Int32) <<< ((h4.1 27 0) &&& 31))))) (by decide) rfl rfl (by decide) rfl dX5_omits_30 ?_
    refine V.aload_n (pc := 31) C dX5_omits_31 0 rfl ?_
    refine V.getf (pc := 32) C (o := 20) (j := 14) (v := .ref 27) (by decide) rfl rfl inX5 (by decide) (by decide) wf_619 rfl dX5_omits_32 ?_
    refine V.iconst (pc := 35) C (v := (0 : Int32)) dX5_omits_35 (by decide) ?_
    refine V.dup2 (pc := 36) C dX5_omits_36 rfl rfl ?_
    refine V.iald (pc := 37) C (o := 27) (v := (h4.1 27 0)) (by decide) rfl rfl (by decide) rfl dX5_omits_37 ?_
    refine V.iconst (pc := 38) C (v := (1 : Int32)) dX5_omits_38 (by decide) ?_
    refine V.iadd (pc := 39) C dX5_omits_39 ?_
    refine V.iast (pc := 40) C (o := 27) (h2 := (sI (sI h4 27 4 ((h4.1 27 4) ||| ((1 : Int32) <<< ((h4.1 27 0) &&& 31)))) 27 0 ((h4.1 27 0) + (1 : Int32)))) (by decide) rfl rfl (by decide) rfl dX5_omits_40 ?_
    refine V.aload_n (pc := 41) C dX5_omits_41 0 rfl ?_
    refine V.getf (pc := 42) C (o := 20) (j := 14) (v := .ref 27) (by decide) rfl rfl inX5 (by decide) (by decide) wf_619 rfl dX5_omits_42 ?_
    refine V.iconst (pc := 45) C (v := (4 : Int32)) dX5_omits_45 (by decide) ?_
    refine V.iald (pc := 46) C (o := 27) (v := ((h4.1 27 4) ||| ((1 : Int32) <<< ((h4.1 27 0) &&& 31)))) (by decide) rfl rfl (by decide) rfl dX5_omits_46 ?_
    obtain ⟨v6, h5, ch5, hs⟩ := o_b2 hs
    refine V.callS (pc := 47) C (rm := rmX5_manyOf) (y := yX5_manyOf) (bytes := cX5_manyOf) (maxL := 3) (ret := (some .int)) (n := 1) (As := [.int ((h4.1 27 4) ||| ((1 : Int32) <<< ((h4.1 27 0) &&& 31)))]) (rest := []) (rv := (some (.int v6))) (h1 := h5) (st0 := [.int ((h4.1 27 4) ||| ((1 : Int32) <<< ((h4.1 27 0) &&& 31)))]) (st2 := [.int v6]) (ct_X5_manyOf (kL k) ch5) wf_780 wf_781 wf_54 wf_782 rfl rfl (by decide +kernel) ⟨by decide, by decide⟩ rfl (Nat.le_of_ble_eq_true rfl) dX5_omits_47 rfl rfl ?_
    exact V.iret (pc := 50) C T hs dX5_omits_50
  · have hs := o_if c3 hs
    refine V.bipush (pc := 7) C (v := (-2 : Int32)) dX5_omits_7 (by decide) ?_
    exact V.iret (pc := 9) C T hs dX5_omits_9
abbrev rmX5_smaller : Room := { frames := 1, cells := 0, slots := 0, locals := 22 }
set_option maxRecDepth 20000 in
theorem ct_X5_smaller (l : Launch) {x1 : Int32} {h hf : Hp} {r : Int32} (hs : X5_smaller x1 h = some (r, hf)) : Ct l yX5_smaller (Cond.code yX5_smaller cX5_smaller 3 (some .int) :: wsG) rmX5_smaller [.ref 20, .int x1] h (some (.int r)) hf := by
  refine Ct.of (by decide +kernel) (fun _ => Nat.le_of_ble_eq_true rfl) (fun k C T => ?_)
  unfold X5_smaller at hs
  show V k rmX5_smaller 3 0 [(0, .ref 20), (1, .int x1)] [] h
  refine V.iload_n (pc := 0) C dX5_smaller_0 1 rfl ?_
  refine V.iconst (pc := 1) C (v := (1 : Int32)) dX5_smaller_1 (by decide) ?_
  refine V.iconst (pc := 2) C (v := (5 : Int32)) dX5_smaller_2 (by decide) ?_
  obtain ⟨v2, h1, ch1, hs⟩ := o_b2 hs
  refine V.callS (pc := 3) C (rm := rmX5_in) (y := yX5_in) (bytes := cX5_in) (maxL := 3) (ret := (some .boolean)) (n := 3) (As := [.int x1, .int (1 : Int32), .int (5 : Int32)]) (rest := []) (rv := (some (.int v2))) (h1 := h1) (st0 := [.int (5 : Int32), .int (1 : Int32), .int x1]) (st2 := [.int v2]) (ct_X5_in (kL k) ch1) wf_693 wf_694 wf_54 wf_695 rfl rfl (by decide +kernel) ⟨by decide, by decide⟩ rfl (Nat.le_of_ble_eq_true rfl) dX5_smaller_3 rfl rfl ?_
  refine V.if_ne (pc := 6) C (tgt := 11) dX5_smaller_6 (by decide) (fun c3 => ?_) (fun c3 => ?_)
  · have hs := o_el c3 hs
    refine V.iload_n (pc := 11) C dX5_smaller_11 1 rfl ?_
    refine V.aload_n (pc := 12) C dX5_smaller_12 0 rfl ?_
    refine V.getf (pc := 13) C (o := 20) (j := 14) (v := .ref 27) (by decide) rfl rfl inX5 (by decide) (by decide) wf_619 rfl dX5_smaller_13 ?_
    refine V.iconst (pc := 16) C (v := (3 : Int32)) dX5_smaller_16 (by decide) ?_
    refine V.iald (pc := 17) C (o := 27) (v := (h1.1 27 3)) (by decide) rfl rfl (by decide) rfl dX5_smaller_17 ?_
    refine V.icmp_ge (pc := 18) C (tgt := 31) dX5_smaller_18 (by decide) (fun c4 => ?_) (fun c4 => ?_)
    · have hs := o_if c4 hs
      refine V.bipush (pc := 31) C (v := (-2 : Int32)) dX5_smaller_31 (by decide) ?_
      exact V.iret (pc := 33) C T hs dX5_smaller_33
    · have hs := o_el c4 hs
      refine V.iload_n (pc := 21) C dX5_smaller_21 1 rfl ?_
      refine V.aload_n (pc := 22) C dX5_smaller_22 0 rfl ?_
      refine V.getf (pc := 23) C (o := 20) (j := 7) (v := .ref 26) (by decide) rfl rfl inX5 (by decide) (by decide) wf_612 rfl dX5_smaller_23 ?_
      refine V.iconst (pc := 26) C (v := (0 : Int32)) dX5_smaller_26 (by decide) ?_
      refine V.iald (pc := 27) C (o := 26) (v := (h1.1 26 0)) (by decide) rfl rfl (by decide) rfl dX5_smaller_27 ?_
      refine V.icmp_ge (pc := 28) C (tgt := 34) dX5_smaller_28 (by decide) (fun c5 => ?_) (fun c5 => ?_)
      · have hs := o_if c5 hs
        refine V.aload_n (pc := 34) C dX5_smaller_34 0 rfl ?_
        obtain ⟨h6, ch6, hs⟩ := o_bind hs
        refine V.callV (pc := 35) C (o := 20) (rm := rmX5_know) (y := yX5_know) (bytes := cX5_know) (maxL := 2) (ret := none) (n := 0) (As := []) (rest := []) (rv := none) (h1 := h6) (st0 := [.ref 20]) (st2 := []) (by decide) rfl rfl (ct_X5_know (kL k) ch6) wf_764 wf_766 wf_34 wf_54 wf_767 rfl rfl (by decide +kernel) ⟨by decide, by decide⟩ rfl (Nat.le_of_ble_eq_true rfl) dX5_smaller_35 rfl rfl ?_
        refine V.aload_n (pc := 38) C dX5_smaller_38 0 rfl ?_
        refine V.getf (pc := 39) C (o := 20) (j := 14) (v := .ref 27) (by decide) rfl rfl inX5 (by decide) (by decide) wf_619 rfl dX5_smaller_39 ?_
        refine V.iconst (pc := 42) C (v := (3 : Int32)) dX5_smaller_42 (by decide) ?_
        refine V.iald (pc := 43) C (o := 27) (v := (h6.1 27 3)) (by decide) rfl rfl (by decide) rfl dX5_smaller_43 ?_
        refine V.istore_n (pc := 44) C (i := 2) (lv2 := [(2, .int (h6.1 27 3)), (0, .ref 20), (1, .int x1)]) dX5_smaller_44 rfl (by decide) rfl ?_
        refine V.aload_n (pc := 45) C dX5_smaller_45 1 rfl ?_
        refine V.getf (pc := 46) C (o := 20) (j := 14) (v := .ref 27) (by decide) rfl rfl inX5 (by decide) (by decide) wf_619 rfl dX5_smaller_46 ?_
        refine V.iconst (pc := 49) C (v := (3 : Int32)) dX5_smaller_49 (by decide) ?_
        refine V.iload_n (pc := 50) C dX5_smaller_50 2 rfl ?_
        refine V.iast (pc := 51) C (o := 27) (h2 := (sI h6 27 3 x1)) (by decide) rfl rfl (by decide) rfl dX5_smaller_51 ?_
        refine V.iload_n (pc := 52) C dX5_smaller_52 0 rfl ?_
        exact V.iret (pc := 53) C T hs dX5_smaller_53
      · have hs := o_el c5 hs
        refine V.bipush (pc := 31) C (v := (-2 : Int32)) dX5_smaller_31 (by decide) ?_
        exact V.iret (pc := 33) C T hs dX5_smaller_33
  · have hs := o_if c3 hs
    refine V.iconst (pc := 9) C (v := (-1 : Int32)) dX5_smaller_9 (by decide) ?_
    exact V.iret (pc := 10) C T hs dX5_smaller_10
abbrev rmX5_turnsOver : Room := { frames := 2, cells := 0, slots := 0, locals := 43 }
set_option maxRecDepth 20000 in
theorem ct_X5_turnsOver (l : Launch) {h hf : Hp} {r : Int32} (hs : X5_turnsOver h = some (r, hf)) : Ct l yX5_turnsOver (Cond.code yX5_turnsOver cX5_turnsOver 1 (some .int) :: wsG) rmX5_turnsOver [.ref 20] h (some (.int r)) hf := by
  refine Ct.of (by decide +kernel) (fun _ => Nat.le_of_ble_eq_true rfl) (fun k C T => ?_)
  unfold X5_turnsOver at hs
  show V k rmX5_turnsOver 1 0 [(0, .ref 20)] [] h
  refine V.aload_n (pc := 0) C dX5_turnsOver_0 0 rfl ?_
  refine V.aload_n (pc := 1) C dX5_turnsOver_1 0 rfl ?_
  refine V.getf (pc := 2) C (o := 20) (j := 14) (v := .ref 27) (by decide) rfl rfl inX5 (by decide) (by decide) wf_619 rfl dX5_turnsOver_2 ?_
  refine V.iconst (pc := 5) C (v := (1 : Int32)) dX5_turnsOver_5 (by decide) ?_
  refine V.iald (pc := 6) C (o := 27) (v := (h.1 27 1)) (by decide) rfl rfl (by decide) rfl dX5_turnsOver_6 ?_
  refine V.iconst (pc := 7) C (v := (1 : Int32)) dX5_turnsOver_7 (by decide) ?_
  refine V.iadd (pc := 8) C dX5_turnsOver_8 ?_
  obtain ⟨v2, h1, ch1, hs⟩ := o_b2 hs
  refine V.callV (pc := 9) C (o := 20) (rm := rmX5_isLine) (y := yX5_isLine) (bytes := cX5_isLine) (maxL := 2) (ret := (some .boolean)) (n := 1) (As := [.int ((h.1 27 1) + (1 : Int32))]) (rest := []) (rv := (some (.int v2))) (h1 := h1) (st0 := [.int ((h.1 27 1) + (1 : Int32)), .ref 20]) (st2 := [.int v2]) (by decide) rfl rfl (ct_X5_isLine (kL k) ch1) wf_732 wf_734 wf_28 wf_54 wf_735 rfl rfl (by decide +kernel) ⟨by decide, by decide⟩ rfl (Nat.le_of_ble_eq_true rfl) dX5_turnsOver_9 rfl rfl ?_
  refine V.if_ne (pc := 12) C (tgt := 18) dX5_turnsOver_12 (by decide) (fun c3 => ?_) (fun c3 => ?_)
  · have hs := o_el c3 hs
    refine V.aload_n (pc := 18) C dX5_turnsOver_18 0 rfl ?_
    obtain ⟨h4, ch4, hs⟩ := o_bind hs
    refine V.callV (pc := 19) C (o := 20) (rm := rmX5_know) (y := yX5_know) (bytes := cX5_know) (maxL := 2) (ret := none) (n := 0) (As := []) (rest := []) (rv := none) (h1 := h4) (st0 := [.ref 20]) (st2 := []) (by decide) rfl rfl (ct_X5_know (kL k) ch4) wf_764 wf_766 wf_34 wf_54 wf_767 rfl rfl (by decide +kernel) ⟨by decide, by decide⟩ rfl (Nat.le_of_ble_eq_true rfl) dX5_turnsOver_19 rfl rfl ?_
    refine V.aload_n (pc := 22) C dX5_turnsOver_22 0 rfl ?_
    refine V.getf (pc := 23) C (o := 20) (j := 14) (v := .ref 27) (by decide) rfl rfl inX5 (by decide) (by decide) wf_619 rfl dX5_turnsOver_23 ?_
    refine V.iconst (pc := 26) C (v := (1 : Int32)) dX5_turnsOver_26 (by decide) ?_
    refine V.dup2 (pc := 27) C dX5_turnsOver_27 rfl rfl ?_
    refine V.iald (pc := 28) C (o := 27) (v := (h4.1 27 1)) (by decide) rfl rfl (by decide) rfl dX5_turnsOver_28 ?_
    refine V.iconst (pc := 29) C (v := (1 : Int32)) dX5_turnsOver_29 (by decide) ?_
    refine V.iadd (pc := 30) C dX5_turnsOver_30 ?_
    refine V.iast (pc := 31) C (o := 27) (h2 := (sI h4 27 1 ((h4.1 27 1) + (1 : Int32)))) (by decide) rfl rfl (by decide) rfl dX5_turnsOver_31 ?_
    refine V.aload_n (pc := 32) C dX5_turnsOver_32 0 rfl ?_
    refine V.getf (pc := 33) C (o := 20) (j := 14) (v := .ref 27) (by decide) rfl rfl inX5 (by decide) (by decide) wf_619 rfl dX5_turnsOver_33 ?_
    refine V.iconst (pc := 36) C (v := (2 : Int32)) dX5_turnsOver_36 (by decide) ?_
    refine V.aload_n (pc := 37) C dX5_turnsOver_37 0 rfl ?_
    refine V.getf (pc := 38) C (o := 20) (j := 4) (v := .ref 23) (by decide) rfl rfl inX5 (by decide) (by decide) wf_609 rfl dX5_turnsOver_38 ?_
    refine V.aload_n (pc := 41) C dX5_turnsOver_41 0 rfl ?_
    refine V.getf (pc := 42) C (o := 20) (j := 14) (v := .ref 27) (by decide) rfl rfl inX5 (by decide) (by decide) wf_619 rfl dX5_turnsOver_42 ?_
    refine V.iconst (pc := 45) C (v := (1 : Int32)) dX5_turnsOver_45 (by decide) ?_
    refine V.iald (pc := 46) C (o := 27) (v := ((h4.1 27 1) + (1 : Int32))) (by decide) rfl rfl (by decide) rfl dX5_turnsOver_46 ?_
    obtain ⟨v5, ev5, bv5, hs⟩ := o_ld hs
    refine V.iald (pc := 47) C (o := 23) (v := v5) (by decide) rfl rfl bv5 ev5 dX5_turnsOver_47 ?_
    refine V.iast (pc := 48) C (o := 27) (h2 := (sI (sI h4 27 1 ((h4.1 27 1) + (1 : Int32))) 27 2 v5)) (by decide) rfl rfl (by decide) rfl dX5_turnsOver_48 ?_
    refine V.aload_n (pc := 49) C dX5_turnsOver_49 0 rfl ?_
    refine V.getf (pc := 50) C (o := 20) (j := 14) (v := .ref 27) (by decide) rfl rfl inX5 (by decide) (by decide) wf_619 rfl dX5_turnsOver_50 ?_
    refine V.iconst (pc := 53) C (v := (1 : Int32)) dX5_turnsOver_53 (by decide) ?_
    refine V.iald (pc := 54) C (o := 27) (v := ((h4.1 27 1) + (1 : Int32))) (by decide) rfl rfl (by decide) rfl dX5_turnsOver_54 ?_
    exact V.iret (pc := 55) C T hs dX5_turnsOver_55
  · have hs := o_if c3 hs
    refine V.bipush (pc := 15) C (v := (-2 : Int32)) dX5_turnsOver_15 (by decide) ?_
    exact V.iret (pc := 17) C T hs dX5_turnsOver_17
abbrev rmX5_undo : Room := { frames := 0, cells := 0, slots := 0, locals := 0 }
set_option maxRecDepth 20000 in
theorem tb_X5_undo_24 {k : KX} (C : Cx k cX5_undo RX5 2 rmX5_undo) {r : Int32} {hf : Hp} (T : Rx k (some .int) (some (.int r)) hf) {K24 : Int32 → Hp → Option (Int32 × Hp)} (hK24 : ∀ (x1 : Int32) (h : Hp), K24 x1 h = some (r, hf) → V k rmX5_undo 2 24 [(0, .ref 20), (1, .int x1)] [] h) (x1 : Int32) (h : Hp) (hs : X5_undo_b24 K24 x1 h = some (r, hf)) : V k rmX5_undo 2 24 [(0, .ref 20), (1, .int x1)] [] h := by
  unfold X5_undo_b24 at hs
  refine V.iload_n (pc := 24) C dX5_undo_24 1 rfl ?_
  refine V.iconst (pc := 25) C (v := (5 : Int32)) dX5_undo_25 (by decide) ?_
  refine V.icmp_ge (pc := 26) C (tgt := 59) dX5_undo_26 (by decide) (fun c2 => ?_) (fun c2 => ?_)
  · have hs := o_if c2 hs
    refine V.aload_n (pc := 59) C dX5_undo_59 0 rfl ?_
    refine V.getf (pc := 60) C (o := 20) (j := 14) (v := .ref 27) (by decide) rfl rfl inX5 (by decide) (by decide) wf_619 rfl dX5_undo_60 ?_
    refine V.iconst (pc := 63) C (v := (5 : Int32)) dX5_undo_63 (by decide) ?_
    refine V.iald (pc := 64) C (o := 27) (v := (h.1 27 5)) (by decide) rfl rfl (by decide) rfl dX5_undo_64 ?_
    exact V.iret (pc := 65) C T hs dX5_undo_65
  · have hs := o_el c2 hs
    refine V.aload_n (pc := 29) C dX5_undo_29 0 rfl ?_
    refine V.getf (pc := 30) C (o := 20) (j := 14) (v := .ref 27) (by decide) rfl rfl inX5 (by decide) (by decide) wf_619 rfl dX5_undo_30 ?_
    refine V.iload_n (pc := 33) C dX5_undo_33 1 rfl ?_
    refine V.aload_n (pc := 34) C dX5_undo_34 0 rfl ?_
    refine V.getf (pc := 35) C (o := 20) (j := 14) (v := .ref 27) (by decide) rfl rfl inX5 (by decide) (by decide) wf_619 rfl dX5_undo_35 ?_
    refine V.bipush (pc := 38) C (v := (6 : Int32)) dX5_undo_38 (by decide) ?_
    refine V.iconst (pc := 40) C (v := (5 : Int32)) dX5_undo_40 (by decide) ?_
    refine V.aload_n (pc := 41) C dX5_undo_41 0 rfl ?_
    refine V.getf (pc := 42) C (o := 20) (j := 14) (v := .ref 27) (by decide) rfl rfl inX5 (by decide) (by decide) wf_619 rfl dX5_undo_42 ?_
    refine V.iconst (pc := 45) C (v := (5 : Int32)) dX5_undo_45 (by decide) ?_
    refine V.iald (pc := 46) C (o := 27) (v := (h.1 27 5)) (by decide) rfl rfl (by decide) rfl dX5_undo_46 ?_
    refine V.imul (pc := 47) C dX5_undo_47 ?_
    refine V.iadd (pc := 48) C dX5_undo_48 ?_
    refine V.iload_n (pc := 49) C dX5_undo_49 1 rfl ?_
    refine V.iadd (pc := 50) C dX5_undo_50 ?_
    obtain ⟨v3, ev3, bv3, hs⟩ := o_ld hs
    refine V.iald (pc := 51) C (o := 27) (v := v3) (by decide) rfl rfl bv3 ev3 dX5_undo_51 ?_
    obtain ⟨h4, eh4, bh4, hs⟩ := o_st hs
    refine V.iast (pc := 52) C (o := 27) (h2 := h4) (by decide) rfl rfl bh4 eh4 dX5_undo_52 ?_
    refine V.iinc (pc := 53) C (j := 1) (v := (x1 + (1 : Int32))) (lv2 := [(1, .int (x1 + (1 : Int32))), (0, .ref 20)]) dX5_undo_53 rfl rfl (by decide) rfl ?_
    refine V.goto (pc := 56) C (tgt := 24) dX5_undo_56 (by decide) ?_
    refine V.sub [1, 0] rfl ?_
    exact hK24 _ _ hs
theorem tl_X5_undo_24 {k : KX} (C : Cx k cX5_undo RX5 2 rmX5_undo) {r : Int32} {hf : Hp} (T : Rx k (some .int) (some (.int r)) hf) : ∀ (n : Nat) (x1 : Int32) (h : Hp), X5_undo_l24 n x1 h = some (r, hf) → V k rmX5_undo 2 24 [(0, .ref 20), (1, .int x1)] [] h := by
  intro n
  induction n with
  | zero => intro x1 h hs; cases hs
  | succ n ih => intro x1 h hs; exact tb_X5_undo_24 C T ih x1 h hs
set_option maxRecDepth 20000 in
theorem ct_X5_undo (l : Launch) {h hf : Hp} {r : Int32} (hs : X5_undo h = some (r, hf)) : Ct l yX5_undo (Cond.code yX5_undo cX5_undo 2 (some .int) :: wsG) rmX5_undo [.ref 20] h (some (.int r)) hf := by
  refine Ct.of (by decide +kernel) (fun _ => Nat.le_of_ble_eq_true rfl) (fun k C T => ?_)
  unfold X5_undo at hs
  show V k rmX5_undo 2 0 [(0, .ref 20)] [] h
  refine V.aload_n (pc := 0) C dX5_undo_0 0 rfl ?_
  refine V.getf (pc := 1) C (o := 20) (j := 14) (v := .ref 27) (by decide) rfl rfl inX5 (by decide) (by decide) wf_619 rfl dX5_undo_1 ?_
  refine V.iconst (pc := 4) C (v := (5 : Int32)) dX5_undo_4 (by decide) ?_
  refine V.iald (pc := 5) C (o := 27) (v := (h.1 27 5)) (by decide) rfl rfl (by decide) rfl dX5_undo_5 ?_
  refine V.if_ne (pc := 6) C (tgt := 12) dX5_undo_6 (by decide) (fun c1 => ?_) (fun c1 => ?_)
  · have hs := o_el c1 hs
    refine V.aload_n (pc := 12) C dX5_undo_12 0 rfl ?_
    refine V.getf (pc := 13) C (o := 20) (j := 14) (v := .ref 27) (by decide) rfl rfl inX5 (by decide) (by decide) wf_619 rfl dX5_undo_13 ?_
    refine V.iconst (pc := 16) C (v := (5 : Int32)) dX5_undo_16 (by decide) ?_
    refine V.dup2 (pc := 17) C dX5_undo_17 rfl rfl ?_
    refine V.iald (pc := 18) C (o := 27) (v := (h.1 27 5)) (by decide) rfl rfl (by decide) rfl dX5_undo_18 ?_
    refine V.iconst (pc := 19) C (v := (1 : Int32)) dX5_undo_19 (by decide) ?_
    refine V.isub (pc := 20) C dX5_undo_20 ?_
    refine V.iast (pc := 21) C (o := 27) (h2 := (sI h 27 5 ((h.1 27 5) - (1 : Int32)))) (by decide) rfl rfl (by decide) rfl dX5_undo_21 ?_
    refine V.iconst (pc := 22) C (v := (0 : Int32)) dX5_undo_22 (by decide) ?_
    refine V.istore_n (pc := 23) C (i := 1) (lv2 := [(1, .int (0 : Int32)), (0, .ref 20)]) dX5_undo_23 rfl (by decide) rfl ?_
    refine V.sub [1, 0] rfl ?_
    exact tl_X5_undo_24 C T fu _ _ hs
  · have hs := o_if c1 hs
    refine V.bipush (pc := 9) C (v := (-2 : Int32)) dX5_undo_9 (by decide) ?_
    exact V.iret (pc := 11) C T hs dX5_undo_11
abbrev rmX5_isClear : Room := { frames := 1, cells := 0, slots := 0, locals := 22 }
set_option maxRecDepth 20000 in
theorem tb_X5_isClear_47 {k : KX} (C : Cx k cX5_isClear RX5 5 rmX5_isClear) {r : Int32} {hf : Hp} (T : Rx k (some .boolean) (some (.int r)) hf) {K22 : Int32 → Int32 → Int32 → Hp → Option (Int32 × Hp)} (hK22 : ∀ (x2 : Int32) (x3 : Int32) (x4 : Int32) (h : Hp), K22 x2 x3 x4 h = some (r, hf) → V k rmX5_isClear 5 22 [(0, .ref 20), (2, .int x2), (3, .int x3), (4, .int x4)] [] h) (x2 : Int32) (x4 : Int32) (s0 : Int32) (h : Hp) (hs : X5_isClear_b47 K22 x2 x4 s0 h = some (r, hf)) : V k rmX5_isClear 5 47 [(0, .ref 20), (2, .int x2), (4, .int x4)] [.int s0] h := by
  unfold X5_isClear_b47 at hs
  refine V.istore_n (pc := 47) C (i := 3) (lv2 := [(3, .int s0), (0, .ref 20), (2, .int x2), (4, .int x4)]) dX5_isClear_47 rfl (by decide) rfl ?_
  refine V.aload_n (pc := 48) C dX5_isClear_48 1 rfl ?_
  refine V.iload (pc := 49) C dX5_isClear_49 3 rfl ?_
  refine V.iconst (pc := 51) C (v := (2 : Int32)) dX5_isClear_51 (by decide) ?_
  obtain ⟨v8, h7, ch7, hs⟩ := o_b2 hs
  refine V.callV (pc := 52) C (o := 20) (rm := rmX5_of) (y := yX5_of) (bytes := cX5_of) (maxL := 3) (ret := (some .int)) (n := 2) (As := [.int x4, .int (2 : Int32)]) (rest := []) (rv := (some (.int v8))) (h1 := h7) (st0 := [.int (2 : Int32), .int x4, .ref 20]) (st2 := [.int v8]) (by decide) rfl rfl (ct_X5_of (kL k) ch7) wf_744 wf_746 wf_30 wf_54 wf_747 rfl rfl (by decide +kernel) ⟨by decide, by decide⟩ rfl (Nat.le_of_ble_eq_true rfl) dX5_isClear_52 rfl rfl ?_
  refine V.istore (pc := 55) C (i := 4) (lv2 := [(4, .int v8), (3, .int s0), (0, .ref 20), (2, .int x2)]) dX5_isClear_55 (by decide) rfl ?_
  refine V.goto (pc := 57) C (tgt := 22) dX5_isClear_57 (by decide) ?_
  refine V.sub [2, 3, 1, 0] rfl ?_
  exact hK22 _ _ _ _ hs
set_option maxRecDepth 20000 in
theorem tb_X5_isClear_46 {k : KX} (C : Cx k cX5_isClear RX5 5 rmX5_isClear) {r : Int32} {hf : Hp} (T : Rx k (some .boolean) (some (.int r)) hf) {K22 : Int32 → Int32 → Int32 → Hp → Option (Int32 × Hp)} (hK22 : ∀ (x2 : Int32) (x3 : Int32) (x4 : Int32) (h : Hp), K22 x2 x3 x4 h = some (r, hf) → V k rmX5_isClear 5 22 [(0, .ref 20), (2, .int x2), (3, .int x3), (4, .int x4)] [] h) (x2 : Int32) (x4 : Int32) (h : Hp) (hs : X5_isClear_b46 K22 x2 x4 h = some (r, hf)) : V k rmX5_isClear 5 46 [(0, .ref 20), (2, .int x2), (4, .int x4)] [] h := by
  unfold X5_isClear_b46 at hs
  refine V.iconst (pc := 46) C (v := (0 : Int32)) dX5_isClear_46 (by decide) ?_
  refine V.sub [0, 1, 2] rfl ?_
  exact tb_X5_isClear_47 C T hK22 _ _ _ _ hs
set_option maxRecDepth 20000 in
theorem tb_X5_isClear_22 {k : KX} (C : Cx k cX5_isClear RX5 5 rmX5_isClear) {r : Int32} {hf : Hp} (T : Rx k (some .boolean) (some (.int r)) hf) {K22 : Int32 → Int32 → Int32 → Hp → Option (Int32 × Hp)} (hK22 : ∀ (x2 : Int32) (x3 : Int32) (x4 : Int32) (h : Hp), K22 x2 x3 x4 h = some (r, hf) → V k rmX5_isClear 5 22 [(0, .ref 20), (2, .int x2), (3, .int x3), (4, .int x4)] [] h) (x2 : Int32) (x3 : Int32) (x4 : Int32) (h : Hp) (hs : X5_isClear_b22 K22 x2 x3 x4 h = some (r, hf)) : V k rmX5_isClear 5 22 [(0, .ref 20), (2, .int x2), (3, .int x3), (4, .int x4)] [] h := by
  unfold X5_isClear_b22 at hs
  refine V.iload (pc := 22) C dX5_isClear_22 3 rfl ?_
  refine V.bipush (pc := 24) C (v := (99 : Int32)) dX5_isClear_24 (by decide) ?_
  refine V.icmp_eq (pc := 26) C (tgt := 60) dX5_isClear_26 (by decide) (fun c4 => ?_) (fun c4 => ?_)
  · have hs := o_if c4 hs
    refine V.iload_n (pc := 60) C dX5_isClear_60 2 rfl ?_
    obtain ⟨zz, hs⟩ := o_zb hs
    exact V.zret (pc := 61) C T zz hs dX5_isClear_61
  · have hs := o_el c4 hs
    refine V.iload_n (pc := 29) C dX5_isClear_29 2 rfl ?_
    refine V.if_eq (pc := 30) C (tgt := 46) dX5_isClear_30 (by decide) (fun c5 => ?_) (fun c5 => ?_)
    · have hs := o_if c5 hs
      refine V.sub [0, 1, 3] rfl ?_
      exact tb_X5_isClear_46 C T hK22 _ _ _ hs
    · have hs := o_el c5 hs
      refine V.iload_n (pc := 33) C dX5_isClear_33 1 rfl ?_
      refine V.iload (pc := 34) C dX5_isClear_34 3 rfl ?_
      refine V.ishr (pc := 36) C dX5_isClear_36 ?_
      refine V.iconst (pc := 37) C (v := (1 : Int32)) dX5_isClear_37 (by decide) ?_
      refine V.iand (pc := 38) C dX5_isClear_38 ?_
      refine V.if_ne (pc := 39) C (tgt := 46) dX5_isClear_39 (by decide) (fun c6 => ?_) (fun c6 => ?_)
      · have hs := o_el c6 hs
        refine V.sub [0, 1, 3] rfl ?_
        exact tb_X5_isClear_46 C T hK22 _ _ _ hs
      · have hs := o_if c6 hs
        refine V.iconst (pc := 42) C (v := (1 : Int32)) dX5_isClear_42 (by decide) ?_
        refine V.goto (pc := 43) C (tgt := 47) dX5_isClear_43 (by decide) ?_
        refine V.sub [0, 1, 3] rfl ?_
        exact tb_X5_isClear_47 C T hK22 _ _ _ _ hs
theorem tl_X5_isClear_22 {k : KX} (C : Cx k cX5_isClear RX5 5 rmX5_isClear) {r : Int32} {hf : Hp} (T : Rx k (some .boolean) (some (.int r)) hf) : ∀ (n : Nat) (x2 : Int32) (x3 : Int32) (x4 : Int32) (h : Hp), X5_isClear_l22 n x2 x3 x4 h = some (r, hf) → V k rmX5_isClear 5 22 [(0, .ref 20), (2, .int x2), (3, .int x3), (4, .int x4)] [] h := by
  intro n
  induction n with
  | zero => intro x2 x3 x4 h hs; cases hs
  | succ n ih => intro x2 x3 x4 h hs; exact tb_X5_isClear_22 C T ih x2 x3 x4 h hs
set_option maxRecDepth 20000 in
theorem tb_X5_isClear_13 {k : KX} (C : Cx k cX5_isClear RX5 5 rmX5_isClear) {r : Int32} {hf : Hp} (T : Rx k (some .boolean) (some (.int r)) hf) (x1 : Int32) (x2 : Int32) (s0 : Int32) (h : Hp) (hs : X5_isClear_b13 x1 x2 s0 h = some (r, hf)) : V k rmX5_isClear 5 13 [(0, .ref 20), (1, .int x1), (2, .int x2)] [.int s0] h := by
  unfold X5_isClear_b13 at hs
  refine V.istore_n (pc := 13) C (i := 3) (lv2 := [(3, .int s0), (0, .ref 20), (1, .int x1), (2, .int x2)]) dX5_isClear_13 rfl (by decide) rfl ?_
  refine V.aload_n (pc := 14) C dX5_isClear_14 1 rfl ?_
  refine V.iload_n (pc := 15) C dX5_isClear_15 2 rfl ?_
  refine V.iconst (pc := 16) C (v := (2 : Int32)) dX5_isClear_16 (by decide) ?_
  obtain ⟨v3, h2, ch2, hs⟩ := o_b2 hs
  refine V.callV (pc := 17) C (o := 20) (rm := rmX5_of) (y := yX5_of) (bytes := cX5_of) (maxL := 3) (ret := (some .int)) (n := 2) (As := [.int x1, .int (2 : Int32)]) (rest := []) (rv := (some (.int v3))) (h1 := h2) (st0 := [.int (2 : Int32), .int x1, .ref 20]) (st2 := [.int v3]) (by decide) rfl rfl (ct_X5_of (kL k) ch2) wf_744 wf_746 wf_30 wf_54 wf_747 rfl rfl (by decide +kernel) ⟨by decide, by decide⟩ rfl (Nat.le_of_ble_eq_true rfl) dX5_isClear_17 rfl rfl ?_
  refine V.istore (pc := 20) C (i := 4) (lv2 := [(4, .int v3), (3, .int s0), (0, .ref 20), (1, .int x1), (2, .int x2)]) dX5_isClear_20 (by decide) rfl ?_
  refine V.sub [2, 4, 1, 0] rfl ?_
  exact tl_X5_isClear_22 C T fu _ _ _ _ hs
set_option maxRecDepth 20000 in
theorem ct_X5_isClear (l : Launch) {x1 : Int32} {x2 : Int32} {h hf : Hp} {r : Int32} (hs : X5_isClear x1 x2 h = some (r, hf)) : Ct l yX5_isClear (Cond.code yX5_isClear cX5_isClear 5 (some .boolean) :: wsG) rmX5_isClear [.ref 20, .int x1, .int x2] h (some (.int r)) hf := by
  refine Ct.of (by decide +kernel) (fun _ => Nat.le_of_ble_eq_true rfl) (fun k C T => ?_)
  unfold X5_isClear at hs
  show V k rmX5_isClear 5 0 [(0, .ref 20), (1, .int x1), (2, .int x2)] [] h
  refine V.iload_n (pc := 0) C dX5_isClear_0 2 rfl ?_
  refine V.iload_n (pc := 1) C dX5_isClear_1 1 rfl ?_
  refine V.ishr (pc := 2) C dX5_isClear_2 ?_
  refine V.iconst (pc := 3) C (v := (1 : Int32)) dX5_isClear_3 (by decide) ?_
  refine V.iand (pc := 4) C dX5_isClear_4 ?_
  refine V.if_ne (pc := 5) C (tgt := 12) dX5_isClear_5 (by decide) (fun c1 => ?_) (fun c1 => ?_)
  · have hs := o_el c1 hs
    refine V.iconst (pc := 12) C (v := (0 : Int32)) dX5_isClear_12 (by decide) ?_
    refine V.sub [0, 1, 2] rfl ?_
    exact tb_X5_isClear_13 C T _ _ _ _ hs
  · have hs := o_if c1 hs
    refine V.iconst (pc := 8) C (v := (1 : Int32)) dX5_isClear_8 (by decide) ?_
    refine V.goto (pc := 9) C (tgt := 13) dX5_isClear_9 (by decide) ?_
    refine V.sub [0, 1, 2] rfl ?_
    exact tb_X5_isClear_13 C T _ _ _ _ hs
abbrev rmX5_sense : Room := { frames := 2, cells := 0, slots := 0, locals := 46 }
set_option maxRecDepth 20000 in
theorem tb_X5_sense_36 {k : KX} (C : Cx k cX5_sense RX5 3 rmX5_sense) {r : Int32} {hf : Hp} (T : Rx k (some .int) (some (.int r)) hf) {K4 : Int32 → Int32 → Hp → Option (Int32 × Hp)} (hK4 : ∀ (x1 : Int32) (x2 : Int32) (h : Hp), K4 x1 x2 h = some (r, hf) → V k rmX5_sense 3 4 [(0, .ref 20), (1, .int x1), (2, .int x2)] [] h) (x2 : Int32) (s0 : Int32) (s1 : Int32) (h : Hp) (hs : X5_sense_b36 K4 x2 s0 s1 h = some (r, hf)) : V k rmX5_sense 3 36 [(0, .ref 20), (2, .int x2)] [.int s1, .int s0] h := by
  unfold X5_sense_b36 at hs
  refine V.ior (pc := 36) C dX5_sense_36 ?_
  refine V.istore_n (pc := 37) C (i := 1) (lv2 := [(1, .int (s0 ||| s1)), (0, .ref 20), (2, .int x2)]) dX5_sense_37 rfl (by decide) rfl ?_
  refine V.iinc (pc := 38) C (j := 2) (v := (x2 + (1 : Int32))) (lv2 := [(2, .int (x2 + (1 : Int32))), (1, .int (s0 ||| s1)), (0, .ref 20)]) dX5_sense_38 rfl rfl (by decide) rfl ?_
  refine V.goto (pc := 41) C (tgt := 4) dX5_sense_41 (by decide) ?_
  refine V.sub [2, 1, 0] rfl ?_
  exact hK4 _ _ _ hs
set_option maxRecDepth 20000 in
theorem tb_X5_sense_4 {k : KX} (C : Cx k cX5_sense RX5 3 rmX5_sense) {r : Int32} {hf : Hp} (T : Rx k (some .int) (some (.int r)) hf) {K4 : Int32 → Int32 → Hp → Option (Int32 × Hp)} (hK4 : ∀ (x1 : Int32) (x2 : Int32) (h : Hp), K4 x1 x2 h = some (r, hf) → V k rmX5_sense 3 4 [(0, .ref 20), (1, .int x1), (2, .int x2)] [] h) (x1 : Int32) (x2 : Int32) (h : Hp) (hs : X5_sense_b4 K4 x1 x2 h = some (r, hf)) : V k rmX5_sense 3 4 [(0, .ref 20), (1, .int x1), (2, .int x2)] [] h := by
  unfold X5_sense_b4 at hs
  refine V.iload_n (pc := 4) C dX5_sense_4 2 rfl ?_
  refine V.aload_n (pc := 5) C dX5_sense_5 0 rfl ?_
  refine V.getf (pc := 6) C (o := 20) (j := 14) (v := .ref 27) (by decide) rfl rfl inX5 (by decide) (by decide) wf_619 rfl dX5_sense_6 ?_
  refine V.iconst (pc := 9) C (v := (0 : Int32)) dX5_sense_9 (by decide) ?_
  refine V.iald (pc := 10) C (o := 27) (v := (h.1 27 0)) (by decide) rfl rfl (by decide) rfl dX5_sense_10 ?_
  refine V.icmp_ge (pc := 11) C (tgt := 44) dX5_sense_11 (by decide) (fun c1 => ?_) (fun c1 => ?_)
  · have hs := o_if c1 hs
    refine V.iload_n (pc := 44) C dX5_sense_44 1 rfl ?_
    exact V.iret (pc := 45) C T hs dX5_sense_45
  · have hs := o_el c1 hs
    refine V.iload_n (pc := 14) C dX5_sense_14 1 rfl ?_
    refine V.aload_n (pc := 15) C dX5_sense_15 0 rfl ?_
    refine V.iload_n (pc := 16) C dX5_sense_16 2 rfl ?_
    refine V.aload_n (pc := 17) C dX5_sense_17 0 rfl ?_
    refine V.getf (pc := 18) C (o := 20) (j := 14) (v := .ref 27) (by decide) rfl rfl inX5 (by decide) (by decide) wf_619 rfl dX5_sense_18 ?_
    refine V.iconst (pc := 21) C (v := (4 : Int32)) dX5_sense_21 (by decide) ?_
    refine V.iald (pc := 22) C (o := 27) (v := (h.1 27 4)) (by decide) rfl rfl (by decide) rfl dX5_sense_22 ?_
    obtain ⟨v3, h2, ch2, hs⟩ := o_b2 hs
    refine V.callV (pc := 23) C (o := 20) (rm := rmX5_isClear) (y := yX5_isClear) (bytes := cX5_isClear) (maxL := 5) (ret := (some .boolean)) (n := 2) (As := [.int x2, .int (h.1 27 4)]) (rest := [.int x1]) (rv := (some (.int v3))) (h1 := h2) (st0 := [.int (h.1 27 4), .int x2, .ref 20, .int x1]) (st2 := [.int v3, .int x1]) (by decide) rfl rfl (ct_X5_isClear (kL k) ch2) wf_803 wf_805 wf_36 wf_54 wf_806 rfl rfl (by decide +kernel) ⟨by decide, by decide⟩ rfl (Nat.le_of_ble_eq_true rfl) dX5_sense_23 rfl rfl ?_
    refine V.if_eq (pc := 26) C (tgt := 35) dX5_sense_26 (by decide) (fun c4 => ?_) (fun c4 => ?_)
    · have hs := o_if c4 hs
      refine V.iconst (pc := 35) C (v := (0 : Int32)) dX5_sense_35 (by decide) ?_
      refine V.sub [0, 2] rfl ?_
      exact tb_X5_sense_36 C T hK4 _ _ _ _ hs
    · have hs := o_el c4 hs
      refine V.iconst (pc := 29) C (v := (1 : Int32)) dX5_sense_29 (by decide) ?_
      refine V.iload_n (pc := 30) C dX5_sense_30 2 rfl ?_
      refine V.ishl (pc := 31) C dX5_sense_31 ?_
      refine V.goto (pc := 32) C (tgt := 36) dX5_sense_32 (by decide) ?_
      refine V.sub [0, 2] rfl ?_
      exact tb_X5_sense_36 C T hK4 _ _ _ _ hs
theorem tl_X5_sense_4 {k : KX} (C : Cx k cX5_sense RX5 3 rmX5_sense) {r : Int32} {hf : Hp} (T : Rx k (some .int) (some (.int r)) hf) : ∀ (n : Nat) (x1 : Int32) (x2 : Int32) (h : Hp), X5_sense_l4 n x1 x2 h = some (r, hf) → V k rmX5_sense 3 4 [(0, .ref 20), (1, .int x1), (2, .int x2)] [] h := by
  intro n
  induction n with
  | zero => intro x1 x2 h hs; cases hs
  | succ n ih => intro x1 x2 h hs; exact tb_X5_sense_4 C T ih x1 x2 h hs
set_option maxRecDepth 20000 in
theorem ct_X5_sense (l : Launch) {h hf : Hp} {r : Int32} (hs : X5_sense h = some (r, hf)) : Ct l yX5_sense (Cond.code yX5_sense cX5_sense 3 (some .int) :: wsG) rmX5_sense [.ref 20] h (some (.int r)) hf := by
  refine Ct.of (by decide +kernel) (fun _ => Nat.le_of_ble_eq_true rfl) (fun k C T => ?_)
  unfold X5_sense at hs
  show V k rmX5_sense 3 0 [(0, .ref 20)] [] h
  refine V.iconst (pc := 0) C (v := (0 : Int32)) dX5_sense_0 (by decide) ?_
  refine V.istore_n (pc := 1) C (i := 1) (lv2 := [(1, .int (0 : Int32)), (0, .ref 20)]) dX5_sense_1 rfl (by decide) rfl ?_
  refine V.iconst (pc := 2) C (v := (0 : Int32)) dX5_sense_2 (by decide) ?_
  refine V.istore_n (pc := 3) C (i := 2) (lv2 := [(2, .int (0 : Int32)), (1, .int (0 : Int32)), (0, .ref 20)]) dX5_sense_3 rfl (by decide) rfl ?_
  refine V.sub [2, 1, 0] rfl ?_
  exact tl_X5_sense_4 C T fu _ _ _ hs
abbrev rmX5_sumOf : Room := { frames := 1, cells := 0, slots := 0, locals := 22 }
set_option maxRecDepth 20000 in
theorem tb_X5_sumOf_5 {k : KX} (C : Cx k cX5_sumOf RX5 5 rmX5_sumOf) {r : Int32} {hf : Hp} (T : Rx k (some .int) (some (.int r)) hf) {K5 : Int32 → Int32 → Int32 → Int32 → Hp → Option (Int32 × Hp)} (hK5 : ∀ (x1 : Int32) (x2 : Int32) (x3 : Int32) (x4 : Int32) (h : Hp), K5 x1 x2 x3 x4 h = some (r, hf) → V k rmX5_sumOf 5 5 [(0, .ref 20), (1, .int x1), (2, .int x2), (3, .int x3), (4, .int x4)] [] h) (x1 : Int32) (x2 : Int32) (x3 : Int32) (x4 : Int32) (h : Hp) (hs : X5_sumOf_b5 K5 x1 x2 x3 x4 h = some (r, hf)) : V k rmX5_sumOf 5 5 [(0, .ref 20), (1, .int x1), (2, .int x2), (3, .int x3), (4, .int x4)] [] h := by
  unfold X5_sumOf_b5 at hs
  refine V.iload (pc := 5) C dX5_sumOf_5 4 rfl ?_
  refine V.aload_n (pc := 7) C dX5_sumOf_7 0 rfl ?_
  refine V.getf (pc := 8) C (o := 20) (j := 5) (v := .ref 24) (by decide) rfl rfl inX5 (by decide) (by decide) wf_610 rfl dX5_sumOf_8 ?_
  refine V.iconst (pc := 11) C (v := (0 : Int32)) dX5_sumOf_11 (by decide) ?_
  refine V.iald (pc := 12) C (o := 24) (v := (h.1 24 0)) (by decide) rfl rfl (by decide) rfl dX5_sumOf_12 ?_
  refine V.icmp_ge (pc := 13) C (tgt := 39) dX5_sumOf_13 (by decide) (fun c1 => ?_) (fun c1 => ?_)
  · have hs := o_if c1 hs
    refine V.iload_n (pc := 39) C dX5_sumOf_39 3 rfl ?_
    exact V.iret (pc := 40) C T hs dX5_sumOf_40
  · have hs := o_el c1 hs
    refine V.iload_n (pc := 16) C dX5_sumOf_16 3 rfl ?_
    refine V.iload_n (pc := 17) C dX5_sumOf_17 1 rfl ?_
    refine V.iload (pc := 18) C dX5_sumOf_18 4 rfl ?_
    refine V.ishr (pc := 20) C dX5_sumOf_20 ?_
    refine V.iconst (pc := 21) C (v := (1 : Int32)) dX5_sumOf_21 (by decide) ?_
    refine V.iand (pc := 22) C dX5_sumOf_22 ?_
    refine V.aload_n (pc := 23) C dX5_sumOf_23 0 rfl ?_
    refine V.iload (pc := 24) C dX5_sumOf_24 4 rfl ?_
    refine V.iload_n (pc := 26) C dX5_sumOf_26 2 rfl ?_
    obtain ⟨v3, h2, ch2, hs⟩ := o_b2 hs
    refine V.callV (pc := 27) C (o := 20) (rm := rmX5_of) (y := yX5_of) (bytes := cX5_of) (maxL := 3) (ret := (some .int)) (n := 2) (As := [.int x4, .int x2]) (rest := [.int ((x1 >>> (x4 &&& 31)) &&& (1 : Int32)), .int x3]) (rv := (some (.int v3))) (h1 := h2) (st0 := [.int x2, .int x4, .ref 20, .int ((x1 >>> (x4 &&& 31)) &&& (1 : Int32)), .int x3]) (st2 := [.int v3, .int ((x1 >>> (x4 &&& 31)) &&& (1 : Int32)), .int x3]) (by decide) rfl rfl (ct_X5_of (kL k) ch2) wf_744 wf_746 wf_30 wf_54 wf_747 rfl rfl (by decide +kernel) ⟨by decide, by decide⟩ rfl (Nat.le_of_ble_eq_true rfl) dX5_sumOf_27 rfl rfl ?_
    refine V.imul (pc := 30) C dX5_sumOf_30 ?_
    refine V.iadd (pc := 31) C dX5_sumOf_31 ?_
    refine V.istore_n (pc := 32) C (i := 3) (lv2 := [(3, .int (x3 + (((x1 >>> (x4 &&& 31)) &&& (1 : Int32)) * v3))), (0, .ref 20), (1, .int x1), (2, .int x2), (4, .int x4)]) dX5_sumOf_32 rfl (by decide) rfl ?_
    refine V.iinc (pc := 33) C (j := 4) (v := (x4 + (1 : Int32))) (lv2 := [(4, .int (x4 + (1 : Int32))), (3, .int (x3 + (((x1 >>> (x4 &&& 31)) &&& (1 : Int32)) * v3))), (0, .ref 20), (1, .int x1), (2, .int x2)]) dX5_sumOf_33 rfl rfl (by decide) rfl ?_
    refine V.goto (pc := 36) C (tgt := 5) dX5_sumOf_36 (by decide) ?_
    refine V.sub [2, 3, 4, 1, 0] rfl ?_
    exact hK5 _ _ _ _ _ hs
theorem tl_X5_sumOf_5 {k : KX} (C : Cx k cX5_sumOf RX5 5 rmX5_sumOf) {r : Int32} {hf : Hp} (T : Rx k (some .int) (some (.int r)) hf) : ∀ (n : Nat) (x1 : Int32) (x2 : Int32) (x3 : Int32) (x4 : Int32) (h : Hp), X5_sumOf_l5 n x1 x2 x3 x4 h = some (r, hf) → V k rmX5_sumOf 5 5 [(0, .ref 20), (1, .int x1), (2, .int x2), (3, .int x3), (4, .int x4)] [] h := by
  intro n
  induction n with
  | zero => intro x1 x2 x3 x4 h hs; cases hs
  | succ n ih => intro x1 x2 x3 x4 h hs; exact tb_X5_sumOf_5 C T ih x1 x2 x3 x4 h hs
set_option maxRecDepth 20000 in
theorem ct_X5_sumOf (l : Launch) {x1 : Int32} {x2 : Int32} {h hf : Hp} {r : Int32} (hs : X5_sumOf x1 x2 h = some (r, hf)) : Ct l yX5_sumOf (Cond.code yX5_sumOf cX5_sumOf 5 (some .int) :: wsG) rmX5_sumOf [.ref 20, .int x1, .int x2] h (some (.int r)) hf := by
  refine Ct.of (by decide +kernel) (fun _ => Nat.le_of_ble_eq_true rfl) (fun k C T => ?_)
  unfold X5_sumOf at hs
  show V k rmX5_sumOf 5 0 [(0, .ref 20), (1, .int x1), (2, .int x2)] [] h
  refine V.iconst (pc := 0) C (v := (0 : Int32)) dX5_sumOf_0 (by decide) ?_
  refine V.istore_n (pc := 1) C (i := 3) (lv2 := [(3, .int (0 : Int32)), (0, .ref 20), (1, .int x1), (2, .int x2)]) dX5_sumOf_1 rfl (by decide) rfl ?_
  refine V.iconst (pc := 2) C (v := (0 : Int32)) dX5_sumOf_2 (by decide) ?_
  refine V.istore (pc := 3) C (i := 4) (lv2 := [(4, .int (0 : Int32)), (3, .int (0 : Int32)), (0, .ref 20), (1, .int x1), (2, .int x2)]) dX5_sumOf_3 (by decide) rfl ?_
  refine V.sub [2, 3, 4, 1, 0] rfl ?_
  exact tl_X5_sumOf_5 C T fu _ _ _ _ _ hs
