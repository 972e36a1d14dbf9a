abbrev rmX5_bestSet : Room := { frames := 3, cells := 0, slots := 0, locals := 70 }
set_option maxRecDepth 20000 in
theorem tb_X5_bestSet_105 {k : KX} (C : Cx k cX5_bestSet RX5 7 rmX5_bestSet) {r : Int32} {hf : Hp} (T : Rx k (some .int) (some (.int r)) hf) {K5 : Int32 → Int32 → Int32 → Int32 → Hp → Option (Int32 × Hp)} (hK5 : ∀ (x1 : Int32) (x2 : Int32) (x3 : Int32) (x4 : Int32) (h : Hp), K5 x1 x2 x3 x4 h = some (r, hf) → V k rmX5_bestSet 7 5 [(0, .ref 20), (1, .int x1), (2, .int x2), (3, .int x3), (4, .int x4)] [] h) (x1 : Int32) (x2 : Int32) (x3 : Int32) (x4 : Int32) (h : Hp) (hs : X5_bestSet_b105 K5 x1 x2 x3 x4 h = some (r, hf)) : V k rmX5_bestSet 7 105 [(0, .ref 20), (1, .int x1), (2, .int x2), (3, .int x3), (4, .int x4)] [] h := by
  unfold X5_bestSet_b105 at hs
  refine V.iinc (pc := 105) C (j := 4) (v := (x4 + (1 : Int32))) (lv2 := [(4, .int (x4 + (1 : Int32))), (0, .ref 20), (1, .int x1), (2, .int x2), (3, .int x3)]) dX5_bestSet_105 rfl rfl (by decide) rfl ?_
  refine V.goto (pc := 108) C (tgt := 5) dX5_bestSet_108 (by decide) ?_
  refine V.sub [1, 2, 3, 4, 0] rfl ?_
  exact hK5 _ _ _ _ _ hs
set_option maxRecDepth 20000 in
theorem tb_X5_bestSet_102 {k : KX} (C : Cx k cX5_bestSet RX5 7 rmX5_bestSet) {r : Int32} {hf : Hp} (T : Rx k (some .int) (some (.int r)) hf) {K5 : Int32 → Int32 → Int32 → Int32 → Hp → Option (Int32 × Hp)} (hK5 : ∀ (x1 : Int32) (x2 : Int32) (x3 : Int32) (x4 : Int32) (h : Hp), K5 x1 x2 x3 x4 h = some (r, hf) → V k rmX5_bestSet 7 5 [(0, .ref 20), (1, .int x1), (2, .int x2), (3, .int x3), (4, .int x4)] [] h) (x1 : Int32) (x2 : Int32) (x4 : Int32) (h : Hp) (hs : X5_bestSet_b102 K5 x1 x2 x4 h = some (r, hf)) : V k rmX5_bestSet 7 102 [(0, .ref 20), (1, .int x1), (2, .int x2), (4, .int x4)] [] h := by
  unfold X5_bestSet_b102 at hs
  refine V.iload (pc := 102) C dX5_bestSet_102 3 rfl ?_
  refine V.istore_n (pc := 104) C (i := 3) (lv2 := [(3, .int x4), (0, .ref 20), (1, .int x1), (2, .int x2), (4, .int x4)]) dX5_bestSet_104 rfl (by decide) rfl ?_
  refine V.sub [1, 2, 3, 0, 4] rfl ?_
  exact tb_X5_bestSet_105 C T hK5 _ _ _ _ _ hs
set_option maxRecDepth 20000 in
theorem tb_X5_bestSet_61 {k : KX} (C : Cx k cX5_bestSet RX5 7 rmX5_bestSet) {r : Int32} {hf : Hp} (T : Rx k (some .int) (some (.int r)) hf) {K5 : Int32 → Int32 → Int32 → Int32 → Hp → Option (Int32 × Hp)} (hK5 : ∀ (x1 : Int32) (x2 : Int32) (x3 : Int32) (x4 : Int32) (h : Hp), K5 x1 x2 x3 x4 h = some (r, hf) → V k rmX5_bestSet 7 5 [(0, .ref 20), (1, .int x1), (2, .int x2), (3, .int x3), (4, .int x4)] [] h) (x1 : Int32) (x2 : Int32) (x3 : Int32) (x4 : Int32) (s0 : Int32) (h : Hp) (hs : X5_bestSet_b61 K5 x1 x2 x3 x4 s0 h = some (r, hf)) : V k rmX5_bestSet 7 61 [(0, .ref 20), (1, .int x1), (2, .int x2), (3, .int x3), (4, .int x4)] [.int s0] h := by
  unfold X5_bestSet_b61 at hs
  refine V.istore (pc := 61) C (i := 6) (lv2 := [(6, .int s0), (0, .ref 20), (1, .int x1), (2, .int x2), (3, .int x3), (4, .int x4)]) dX5_bestSet_61 (by decide) rfl ?_
  refine V.iload (pc := 63) C dX5_bestSet_63 0 rfl ?_
  refine V.if_eq (pc := 65) C (tgt := 105) dX5_bestSet_65 (by decide) (fun c15 => ?_) (fun c15 => ?_)
  · have hs := o_if c15 hs
    refine V.sub [1, 2, 3, 4, 5] rfl ?_
    exact tb_X5_bestSet_105 C T hK5 _ _ _ _ _ hs
  · have hs := o_el c15 hs
    refine V.iload (pc := 68) C dX5_bestSet_68 5 rfl ?_
    obtain ⟨v17, h16, ch16, hs⟩ := o_b2 hs
    refine V.callS (pc := 70) C (rm := rmX5_manyOf) (y := yX5_manyOf) (bytes := cX5_manyOf) (maxL := 3) (ret := (some .int)) (n := 1) (As := [.int x4]) (rest := []) (rv := (some (.int v17))) (h1 := h16) (st0 := [.int x4]) (st2 := [.int v17]) (ct_X5_manyOf (kL k) ch16) wf_780 wf_781 wf_54 wf_782 rfl rfl (by decide +kernel) ⟨by decide, by decide⟩ rfl (Nat.le_of_ble_eq_true rfl) dX5_bestSet_70 rfl rfl ?_
    refine V.iload_n (pc := 73) C dX5_bestSet_73 2 rfl ?_
    refine V.icmp_gt (pc := 74) C (tgt := 105) dX5_bestSet_74 (by decide) (fun c18 => ?_) (fun c18 => ?_)
    · have hs := o_if c18 hs
      refine V.sub [1, 2, 3, 4, 5] rfl ?_
      exact tb_X5_bestSet_105 C T hK5 _ _ _ _ _ hs
    · have hs := o_el c18 hs
      refine V.aload_n (pc := 77) C dX5_bestSet_77 1 rfl ?_
      refine V.iload (pc := 78) C dX5_bestSet_78 5 rfl ?_
      obtain ⟨v20, h19, ch19, hs⟩ := o_b2 hs
      refine V.callV (pc := 80) C (o := 20) (rm := rmX5_hasNeeds) (y := yX5_hasNeeds) (bytes := cX5_hasNeeds) (maxL := 5) (ret := (some .boolean)) (n := 1) (As := [.int x4]) (rest := []) (rv := (some (.int v20))) (h1 := h19) (st0 := [.int x4, .ref 20]) (st2 := [.int v20]) (by decide) rfl rfl (ct_X5_hasNeeds (kL k) ch19) wf_859 wf_861 wf_46 wf_54 wf_862 rfl rfl (by decide +kernel) ⟨by decide, by decide⟩ rfl (Nat.le_of_ble_eq_true rfl) dX5_bestSet_80 rfl rfl ?_
      refine V.if_eq (pc := 83) C (tgt := 105) dX5_bestSet_83 (by decide) (fun c21 => ?_) (fun c21 => ?_)
      · have hs := o_if c21 hs
        refine V.sub [1, 2, 3, 4, 5] rfl ?_
        exact tb_X5_bestSet_105 C T hK5 _ _ _ _ _ hs
      · have hs := o_el c21 hs
        refine V.iload_n (pc := 86) C dX5_bestSet_86 3 rfl ?_
        refine V.bipush (pc := 87) C (v := (-9 : Int32)) dX5_bestSet_87 (by decide) ?_
        refine V.icmp_eq (pc := 89) C (tgt := 102) dX5_bestSet_89 (by decide) (fun c22 => ?_) (fun c22 => ?_)
        · have hs := o_if c22 hs
          refine V.sub [1, 2, 3, 5] rfl ?_
          exact tb_X5_bestSet_102 C T hK5 _ _ _ _ hs
        · have hs := o_el c22 hs
          refine V.aload_n (pc := 92) C dX5_bestSet_92 1 rfl ?_
          refine V.iload_n (pc := 93) C dX5_bestSet_93 3 rfl ?_
          refine V.iload (pc := 94) C dX5_bestSet_94 5 rfl ?_
          obtain ⟨v24, h23, ch23, hs⟩ := o_b2 hs
          refine V.callV (pc := 96) C (o := 20) (rm := rmX5_goesOn) (y := yX5_goesOn) (bytes := cX5_goesOn) (maxL := 3) (ret := (some .boolean)) (n := 2) (As := [.int x2, .int x4]) (rest := []) (rv := (some (.int v24))) (h1 := h23) (st0 := [.int x4, .int x2, .ref 20]) (st2 := [.int v24]) (by decide) rfl rfl (ct_X5_goesOn (kL k) ch23) wf_839 wf_841 wf_43 wf_54 wf_842 rfl rfl (by decide +kernel) ⟨by decide, by decide⟩ rfl (Nat.le_of_ble_eq_true rfl) dX5_bestSet_96 rfl rfl ?_
          refine V.if_eq (pc := 99) C (tgt := 105) dX5_bestSet_99 (by decide) (fun c25 => ?_) (fun c25 => ?_)
          · have hs := o_if c25 hs
            refine V.sub [1, 2, 3, 4, 5] rfl ?_
            exact tb_X5_bestSet_105 C T hK5 _ _ _ _ _ hs
          · have hs := o_el c25 hs
            refine V.sub [1, 2, 3, 5] rfl ?_
            exact tb_X5_bestSet_102 C T hK5 _ _ _ _ hs
set_option maxRecDepth 20000 in
theorem tb_X5_bestSet_56 {k : KX} (C : Cx k cX5_bestSet RX5 7 rmX5_bestSet) {r : Int32} {hf : Hp} (T : Rx k (some .int) (some (.int r)) hf) {K5 : Int32 → Int32 → Int32 → Int32 → Hp → Option (Int32 × Hp)} (hK5 : ∀ (x1 : Int32) (x2 : Int32) (x3 : Int32) (x4 : Int32) (h : Hp), K5 x1 x2 x3 x4 h = some (r, hf) → V k rmX5_bestSet 7 5 [(0, .ref 20), (1, .int x1), (2, .int x2), (3, .int x3), (4, .int x4)] [] h) (x1 : Int32) (x2 : Int32) (x3 : Int32) (x4 : Int32) (h : Hp) (hs : X5_bestSet_b56 K5 x1 x2 x3 x4 h = some (r, hf)) : V k rmX5_bestSet 7 56 [(0, .ref 20), (1, .int x1), (2, .int x2), (3, .int x3), (4, .int x4)] [] h := by
  unfold X5_bestSet_b56 at hs
  refine V.iconst (pc := 56) C (v := (1 : Int32)) dX5_bestSet_56 (by decide) ?_
  refine V.goto (pc := 57) C (tgt := 61) dX5_bestSet_57 (by decide) ?_
  refine V.sub [0, 1, 2, 3, 4] rfl ?_
  exact tb_X5_bestSet_61 C T hK5 _ _ _ _ _ _ hs
set_option maxRecDepth 20000 in
theorem tb_X5_bestSet_60 {k : KX} (C : Cx k cX5_bestSet RX5 7 rmX5_bestSet) {r : Int32} {hf : Hp} (T : Rx k (some .int) (some (.int r)) hf) {K5 : Int32 → Int32 → Int32 → Int32 → Hp → Option (Int32 × Hp)} (hK5 : ∀ (x1 : Int32) (x2 : Int32) (x3 : Int32) (x4 : Int32) (h : Hp), K5 x1 x2 x3 x4 h = some (r, hf) → V k rmX5_bestSet 7 5 [(0, .ref 20), (1, .int x1), (2, .int x2), (3, .int x3), (4, .int x4)] [] h) (x1 : Int32) (x2 : Int32) (x3 : Int32) (x4 : Int32) (h : Hp) (hs : X5_bestSet_b60 K5 x1 x2 x3 x4 h = some (r, hf)) : V k rmX5_bestSet 7 60 [(0, .ref 20), (1, .int x1), (2, .int x2), (3, .int x3), (4, .int x4)] [] h := by
  unfold X5_bestSet_b60 at hs
  refine V.iconst (pc := 60) C (v := (0 : Int32)) dX5_bestSet_60 (by decide) ?_
  refine V.sub [0, 1, 2, 3, 4] rfl ?_
  exact tb_X5_bestSet_61 C T hK5 _ _ _ _ _ _ hs
set_option maxRecDepth 20000 in
theorem tb_X5_bestSet_5 {k : KX} (C : Cx k cX5_bestSet RX5 7 rmX5_bestSet) {r : Int32} {hf : Hp} (T : Rx k (some .int) (some (.int r)) hf) {K5 : Int32 → Int32 → Int32 → Int32 → Hp → Option (Int32 × Hp)} (hK5 : ∀ (x1 : Int32) (x2 : Int32) (x3 : Int32) (x4 : Int32) (h : Hp), K5 x1 x2 x3 x4 h = some (r, hf) → V k rmX5_bestSet 7 5 [(0, .ref 20), (1, .int x1), (2, .int x2), (3, .int x3), (4, .int x4)] [] h) (x1 : Int32) (x2 : Int32) (x3 : Int32) (x4 : Int32) (h : Hp) (hs : X5_bestSet_b5 K5 x1 x2 x3 x4 h = some (r, hf)) : V k rmX5_bestSet 7 5 [(0, .ref 20), (1, .int x1), (2, .int x2), (3, .int x3), (4, .int x4)] [] h := by
  unfold X5_bestSet_b5 at hs
  refine V.iload (pc := 5) C dX5_bestSet_5 4 rfl ?_
  refine V.aload_n (pc := 7) C dX5_bestSet_7 0 rfl ?_
  obtain ⟨v2, h1, ch1, hs⟩ := o_b2 hs
  refine V.callV (pc := 8) C (o := 20) (rm := rmX5_all) (y := yX5_all) (bytes := cX5_all) (maxL := 1) (ret := (some .int)) (n := 0) (As := []) (rest := [.int x4]) (rv := (some (.int v2))) (h1 := h1) (st0 := [.ref 20, .int x4]) (st2 := [.int v2, .int x4]) (by decide) rfl rfl (ct_X5_all (kL k) ch1) wf_819 wf_821 wf_39 wf_54 wf_822 rfl rfl (by decide +kernel) ⟨by decide, by decide⟩ rfl (Nat.le_of_ble_eq_true rfl) dX5_bestSet_8 rfl rfl ?_
  refine V.icmp_gt (pc := 11) C (tgt := 111) dX5_bestSet_11 (by decide) (fun c3 => ?_) (fun c3 => ?_)
  · have hs := o_if c3 hs
    refine V.iload_n (pc := 111) C dX5_bestSet_111 3 rfl ?_
    exact V.iret (pc := 112) C T hs dX5_bestSet_112
  · have hs := o_el c3 hs
    refine V.aload_n (pc := 14) C dX5_bestSet_14 0 rfl ?_
    refine V.iload (pc := 15) C dX5_bestSet_15 4 rfl ?_
    refine V.iconst (pc := 17) C (v := (1 : Int32)) dX5_bestSet_17 (by decide) ?_
    obtain ⟨v5, h4, ch4, hs⟩ := o_b2 hs
    refine V.callV (pc := 18) C (o := 20) (rm := rmX5_sumOf) (y := yX5_sumOf) (bytes := cX5_sumOf) (maxL := 5) (ret := (some .int)) (n := 2) (As := [.int x4, .int (1 : Int32)]) (rest := []) (rv := (some (.int v5))) (h1 := h4) (st0 := [.int (1 : Int32), .int x4, .ref 20]) (st2 := [.int v5]) (by decide) rfl rfl (ct_X5_sumOf (kL k) ch4) wf_807 wf_809 wf_37 wf_54 wf_810 rfl rfl (by decide +kernel) ⟨by decide, by decide⟩ rfl (Nat.le_of_ble_eq_true rfl) dX5_bestSet_18 rfl rfl ?_
    refine V.aload_n (pc := 21) C dX5_bestSet_21 0 rfl ?_
    refine V.iload_n (pc := 22) C dX5_bestSet_22 3 rfl ?_
    refine V.iconst (pc := 23) C (v := (1 : Int32)) dX5_bestSet_23 (by decide) ?_
    obtain ⟨v7, h6, ch6, hs⟩ := o_b2 hs
    refine V.callV (pc := 24) C (o := 20) (rm := rmX5_sumOf) (y := yX5_sumOf) (bytes := cX5_sumOf) (maxL := 5) (ret := (some .int)) (n := 2) (As := [.int x3, .int (1 : Int32)]) (rest := [.int v5]) (rv := (some (.int v7))) (h1 := h6) (st0 := [.int (1 : Int32), .int x3, .ref 20, .int v5]) (st2 := [.int v7, .int v5]) (by decide) rfl rfl (ct_X5_sumOf (kL k) ch6) wf_807 wf_809 wf_37 wf_54 wf_810 rfl rfl (by decide +kernel) ⟨by decide, by decide⟩ rfl (Nat.le_of_ble_eq_true rfl) dX5_bestSet_24 rfl rfl ?_
    refine V.isub (pc := 27) C dX5_bestSet_27 ?_
    refine V.istore (pc := 28) C (i := 5) (lv2 := [(5, .int (v5 - v7)), (0, .ref 20), (1, .int x1), (2, .int x2), (3, .int x3), (4, .int x4)]) dX5_bestSet_28 (by decide) rfl ?_
    refine V.iload (pc := 30) C dX5_bestSet_30 0 rfl ?_
    refine V.if_gt (pc := 32) C (tgt := 56) dX5_bestSet_32 (by decide) (fun c8 => ?_) (fun c8 => ?_)
    · have hs := o_if c8 hs
      refine V.sub [1, 2, 3, 4, 5] rfl ?_
      exact tb_X5_bestSet_56 C T hK5 _ _ _ _ _ hs
    · have hs := o_el c8 hs
      refine V.iload (pc := 35) C dX5_bestSet_35 0 rfl ?_
      refine V.if_ne (pc := 37) C (tgt := 60) dX5_bestSet_37 (by decide) (fun c9 => ?_) (fun c9 => ?_)
      · have hs := o_el c9 hs
        refine V.sub [1, 2, 3, 4, 5] rfl ?_
        exact tb_X5_bestSet_60 C T hK5 _ _ _ _ _ hs
      · have hs := o_if c9 hs
        refine V.aload_n (pc := 40) C dX5_bestSet_40 1 rfl ?_
        refine V.iload (pc := 41) C dX5_bestSet_41 5 rfl ?_
        refine V.iconst (pc := 43) C (v := (0 : Int32)) dX5_bestSet_43 (by decide) ?_
        obtain ⟨v11, h10, ch10, hs⟩ := o_b2 hs
        refine V.callV (pc := 44) C (o := 20) (rm := rmX5_sumOf) (y := yX5_sumOf) (bytes := cX5_sumOf) (maxL := 5) (ret := (some .int)) (n := 2) (As := [.int x4, .int (0 : Int32)]) (rest := []) (rv := (some (.int v11))) (h1 := h10) (st0 := [.int (0 : Int32), .int x4, .ref 20]) (st2 := [.int v11]) (by decide) rfl rfl (ct_X5_sumOf (kL k) ch10) wf_807 wf_809 wf_37 wf_54 wf_810 rfl rfl (by decide +kernel) ⟨by decide, by decide⟩ rfl (Nat.le_of_ble_eq_true rfl) dX5_bestSet_44 rfl rfl ?_
        refine V.aload_n (pc := 47) C dX5_bestSet_47 1 rfl ?_
        refine V.iload_n (pc := 48) C dX5_bestSet_48 4 rfl ?_
        refine V.iconst (pc := 49) C (v := (0 : Int32)) dX5_bestSet_49 (by decide) ?_
        obtain ⟨v13, h12, ch12, hs⟩ := o_b2 hs
        refine V.callV (pc := 50) C (o := 20) (rm := rmX5_sumOf) (y := yX5_sumOf) (bytes := cX5_sumOf) (maxL := 5) (ret := (some .int)) (n := 2) (As := [.int x3, .int (0 : Int32)]) (rest := [.int v11]) (rv := (some (.int v13))) (h1 := h12) (st0 := [.int (0 : Int32), .int x3, .ref 20, .int v11]) (st2 := [.int v13, .int v11]) (by decide) rfl rfl (ct_X5_sumOf (kL k) ch12) wf_807 wf_809 wf_37 wf_54 wf_810 rfl rfl (by decide +kernel) ⟨by decide, by decide⟩ rfl (Nat.le_of_ble_eq_true rfl) dX5_bestSet_50 rfl rfl ?_
        refine V.icmp_ge (pc := 53) C (tgt := 60) dX5_bestSet_53 (by decide) (fun c14 => ?_) (fun c14 => ?_)
        · have hs := o_if c14 hs
          refine V.sub [1, 2, 3, 4, 5] rfl ?_
          exact tb_X5_bestSet_60 C T hK5 _ _ _ _ _ hs
        · have hs := o_el c14 hs
          refine V.sub [1, 2, 3, 4, 5] rfl ?_
          exact tb_X5_bestSet_56 C T hK5 _ _ _ _ _ hs
theorem tl_X5_bestSet_5 {k : KX} (C : Cx k cX5_bestSet RX5 7 rmX5_bestSet) {r : Int32} {hf : Hp} (T : Rx k (some .int) (some (.int r)) hf) : ∀ (n : Nat) (x1 : Int32) (x2 : Int32) (x3 : Int32) (x4 : Int32) (h : Hp), X5_bestSet_l5 n x1 x2 x3 x4 h = some (r, hf) → V k rmX5_bestSet 7 5 [(0, .ref 20), (1, .int x1), (2, .int x2), (3, .int x3), (4, .int x4)] [] h := by
  intro n
  induction n with
  | zero => intro x1 x2 x3 x4 h hs; cases hs
  | succ n ih => intro x1 x2 x3 x4 h hs; exact tb_X5_bestSet_5 C T ih x1 x2 x3 x4 h hs
set_option maxRecDepth 20000 in
theorem ct_X5_bestSet (l : Launch) {x1 : Int32} {x2 : Int32} {h hf : Hp} {r : Int32} (hs : X5_bestSet x1 x2 h = some (r, hf)) : Ct l yX5_bestSet (Cond.code yX5_bestSet cX5_bestSet 7 (some .int) :: wsG) rmX5_bestSet [.ref 20, .int x1, .int x2] h (some (.int r)) hf := by
  refine Ct.of (by decide +kernel) (fun _ => Nat.le_of_ble_eq_true rfl) (fun k C T => ?_)
  unfold X5_bestSet at hs
  show V k rmX5_bestSet 7 0 [(0, .ref 20), (1, .int x1), (2, .int x2)] [] h
  refine V.iconst (pc := 0) C (v := (0 : Int32)) dX5_bestSet_0 (by decide) ?_
  refine V.istore_n (pc := 1) C (i := 3) (lv2 := [(3, .int (0 : Int32)), (0, .ref 20), (1, .int x1), (2, .int x2)]) dX5_bestSet_1 rfl (by decide) rfl ?_
  refine V.iconst (pc := 2) C (v := (1 : Int32)) dX5_bestSet_2 (by decide) ?_
  refine V.istore (pc := 3) C (i := 4) (lv2 := [(4, .int (1 : Int32)), (3, .int (0 : Int32)), (0, .ref 20), (1, .int x1), (2, .int x2)]) dX5_bestSet_3 (by decide) rfl ?_
  refine V.sub [2, 3, 4, 1, 0] rfl ?_
  exact tl_X5_bestSet_5 C T fu _ _ _ _ _ hs
abbrev rmX5_kept : Room := { frames := 4, cells := 0, slots := 0, locals := 96 }
set_option maxRecDepth 20000 in
theorem ct_X5_kept (l : Launch) {x1 : Int32} {x2 : Int32} {h hf : Hp} {r : Int32} (hs : X5_kept x1 x2 h = some (r, hf)) : Ct l yX5_kept (Cond.code yX5_kept cX5_kept 4 (some .int) :: wsG) rmX5_kept [.ref 20, .int x1, .int x2] h (some (.int r)) hf := by
  refine Ct.of (by decide +kernel) (fun _ => Nat.le_of_ble_eq_true rfl) (fun k C T => ?_)
  unfold X5_kept at hs
  show V k rmX5_kept 4 0 [(0, .ref 20), (1, .int x1), (2, .int x2)] [] h
  refine V.aload_n (pc := 0) C dX5_kept_0 0 rfl ?_
  refine V.iload_n (pc := 1) C dX5_kept_1 1 rfl ?_
  obtain ⟨v2, h1, ch1, hs⟩ := o_b2 hs
  refine V.callV (pc := 2) C (o := 20) (rm := rmX5_isSize) (y := yX5_isSize) (bytes := cX5_isSize) (maxL := 2) (ret := (some .boolean)) (n := 1) (As := [.int x1]) (rest := []) (rv := (some (.int v2))) (h1 := h1) (st0 := [.int x1, .ref 20]) (st2 := [.int v2]) (by decide) rfl rfl (ct_X5_isSize (kL k) ch1) wf_815 wf_817 wf_38 wf_54 wf_818 rfl rfl (by decide +kernel) ⟨by decide, by decide⟩ rfl (Nat.le_of_ble_eq_true rfl) dX5_kept_2 rfl rfl ?_
  refine V.if_eq (pc := 5) C (tgt := 17) dX5_kept_5 (by decide) (fun c3 => ?_) (fun c3 => ?_)
  · have hs := o_if c3 hs
    refine V.iconst (pc := 17) C (v := (-1 : Int32)) dX5_kept_17 (by decide) ?_
    exact V.iret (pc := 18) C T hs dX5_kept_18
  · have hs := o_el c3 hs
    refine V.iload_n (pc := 8) C dX5_kept_8 2 rfl ?_
    refine V.iconst (pc := 9) C (v := (0 : Int32)) dX5_kept_9 (by decide) ?_
    refine V.iconst (pc := 10) C (v := (1 : Int32)) dX5_kept_10 (by decide) ?_
    obtain ⟨v5, h4, ch4, hs⟩ := o_b2 hs
    refine V.callS (pc := 11) C (rm := rmX5_in) (y := yX5_in) (bytes := cX5_in) (maxL := 3) (ret := (some .boolean)) (n := 3) (As := [.int x2, .int (0 : Int32), .int (1 : Int32)]) (rest := []) (rv := (some (.int v5))) (h1 := h4) (st0 := [.int (1 : Int32), .int (0 : Int32), .int x2]) (st2 := [.int v5]) (ct_X5_in (kL k) ch4) wf_693 wf_694 wf_54 wf_695 rfl rfl (by decide +kernel) ⟨by decide, by decide⟩ rfl (Nat.le_of_ble_eq_true rfl) dX5_kept_11 rfl rfl ?_
    refine V.if_ne (pc := 14) C (tgt := 19) dX5_kept_14 (by decide) (fun c6 => ?_) (fun c6 => ?_)
    · have hs := o_el c6 hs
      refine V.aload_n (pc := 19) C dX5_kept_19 0 rfl ?_
      refine V.bipush (pc := 20) C (v := (10 : Int32)) dX5_kept_20 (by decide) ?_
      refine V.iload_n (pc := 22) C dX5_kept_22 1 rfl ?_
      obtain ⟨v8, h7, ch7, hs⟩ := o_b2 hs
      refine V.callV (pc := 23) C (o := 20) (rm := rmX5_bestSet) (y := yX5_bestSet) (bytes := cX5_bestSet) (maxL := 7) (ret := (some .int)) (n := 2) (As := [.int (10 : Int32), .int x1]) (rest := []) (rv := (some (.int v8))) (h1 := h7) (st0 := [.int x1, .int (10 : Int32), .ref 20]) (st2 := [.int v8]) (by decide) rfl rfl (ct_X5_bestSet (kL k) ch7) wf_855 wf_857 wf_45 wf_54 wf_858 rfl rfl (by decide +kernel) ⟨by decide, by decide⟩ rfl (Nat.le_of_ble_eq_true rfl) dX5_kept_23 rfl rfl ?_
      refine V.istore_n (pc := 26) C (i := 3) (lv2 := [(3, .int v8), (0, .ref 20), (1, .int x1), (2, .int x2)]) dX5_kept_26 rfl (by decide) rfl ?_
      refine V.iload_n (pc := 27) C dX5_kept_27 3 rfl ?_
      refine V.if_ne (pc := 28) C (tgt := 40) dX5_kept_28 (by decide) (fun c9 => ?_) (fun c9 => ?_)
      · have hs := o_el c9 hs
        refine V.iload_n (pc := 40) C dX5_kept_40 0 rfl ?_
        exact V.iret (pc := 41) C T hs dX5_kept_41
      · have hs := o_if c9 hs
        refine V.aload_n (pc := 31) C dX5_kept_31 1 rfl ?_
        refine V.iload_n (pc := 32) C dX5_kept_32 0 rfl ?_
        refine V.iconst (pc := 33) C (v := (1 : Int32)) dX5_kept_33 (by decide) ?_
        obtain ⟨v11, h10, ch10, hs⟩ := o_b2 hs
        refine V.callV (pc := 34) C (o := 20) (rm := rmX5_sumOf) (y := yX5_sumOf) (bytes := cX5_sumOf) (maxL := 5) (ret := (some .int)) (n := 2) (As := [.int v8, .int (1 : Int32)]) (rest := []) (rv := (some (.int v11))) (h1 := h10) (st0 := [.int (1 : Int32), .int v8, .ref 20]) (st2 := [.int v11]) (by decide) rfl rfl (ct_X5_sumOf (kL k) ch10) wf_807 wf_809 wf_37 wf_54 wf_810 rfl rfl (by decide +kernel) ⟨by decide, by decide⟩ rfl (Nat.le_of_ble_eq_true rfl) dX5_kept_34 rfl rfl ?_
        refine V.goto (pc := 37) C (tgt := 41) dX5_kept_37 (by decide) ?_
        exact V.iret (pc := 41) C T hs dX5_kept_41
    · have hs := o_if c6 hs
      refine V.iconst (pc := 17) C (v := (-1 : Int32)) dX5_kept_17 (by decide) ?_
      exact V.iret (pc := 18) C T hs dX5_kept_18
abbrev rmX5_telegram : Room := { frames := 4, cells := 0, slots := 0, locals := 96 }
set_option maxRecDepth 20000 in
theorem ct_X5_telegram (l : Launch) {x1 : Int32} {x2 : Int32} {h hf : Hp} {r : Int32} (hs : X5_telegram x1 x2 h = some (r, hf)) : Ct l yX5_telegram (Cond.code yX5_telegram cX5_telegram 4 (some .int) :: wsG) rmX5_telegram [.ref 20, .int x1, .int x2] h (some (.int r)) hf := by
  refine Ct.of (by decide +kernel) (fun _ => Nat.le_of_ble_eq_true rfl) (fun k C T => ?_)
  unfold X5_telegram at hs
  show V k rmX5_telegram 4 0 [(0, .ref 20), (1, .int x1), (2, .int x2)] [] h
  refine V.iload_n (pc := 0) C dX5_telegram_0 1 rfl ?_
  refine V.iconst (pc := 1) C (v := (0 : Int32)) dX5_telegram_1 (by decide) ?_
  refine V.bipush (pc := 2) C (v := (10 : Int32)) dX5_telegram_2 (by decide) ?_
  obtain ⟨v2, h1, ch1, hs⟩ := o_b2 hs
  refine V.callS (pc := 4) C (rm := rmX5_in) (y := yX5_in) (bytes := cX5_in) (maxL := 3) (ret := (some .boolean)) (n := 3) (As := [.int x1, .int (0 : Int32), .int (10 : Int32)]) (rest := []) (rv := (some (.int v2))) (h1 := h1) (st0 := [.int (10 : Int32), .int (0 : Int32), .int x1]) (st2 := [.int v2]) (ct_X5_in (kL k) ch1) wf_693 wf_694 wf_54 wf_695 rfl rfl (by decide +kernel) ⟨by decide, by decide⟩ rfl (Nat.le_of_ble_eq_true rfl) dX5_telegram_4 rfl rfl ?_
  refine V.if_eq (pc := 7) C (tgt := 19) dX5_telegram_7 (by decide) (fun c3 => ?_) (fun c3 => ?_)
  · have hs := o_if c3 hs
    refine V.iconst (pc := 19) C (v := (-1 : Int32)) dX5_telegram_19 (by decide) ?_
    exact V.iret (pc := 20) C T hs dX5_telegram_20
  · have hs := o_el c3 hs
    refine V.iload_n (pc := 10) C dX5_telegram_10 2 rfl ?_
    refine V.iconst (pc := 11) C (v := (0 : Int32)) dX5_telegram_11 (by decide) ?_
    refine V.iconst (pc := 12) C (v := (1 : Int32)) dX5_telegram_12 (by decide) ?_
    obtain ⟨v5, h4, ch4, hs⟩ := o_b2 hs
    refine V.callS (pc := 13) C (rm := rmX5_in) (y := yX5_in) (bytes := cX5_in) (maxL := 3) (ret := (some .boolean)) (n := 3) (As := [.int x2, .int (0 : Int32), .int (1 : Int32)]) (rest := []) (rv := (some (.int v5))) (h1 := h4) (st0 := [.int (1 : Int32), .int (0 : Int32), .int x2]) (st2 := [.int v5]) (ct_X5_in (kL k) ch4) wf_693 wf_694 wf_54 wf_695 rfl rfl (by decide +kernel) ⟨by decide, by decide⟩ rfl (Nat.le_of_ble_eq_true rfl) dX5_telegram_13 rfl rfl ?_
    refine V.if_ne (pc := 16) C (tgt := 21) dX5_telegram_16 (by decide) (fun c6 => ?_) (fun c6 => ?_)
    · have hs := o_el c6 hs
      refine V.aload_n (pc := 21) C dX5_telegram_21 0 rfl ?_
      refine V.iload_n (pc := 22) C dX5_telegram_22 1 rfl ?_
      refine V.bipush (pc := 23) C (v := (-9 : Int32)) dX5_telegram_23 (by decide) ?_
      obtain ⟨v8, h7, ch7, hs⟩ := o_b2 hs
      refine V.callV (pc := 25) C (o := 20) (rm := rmX5_bestSet) (y := yX5_bestSet) (bytes := cX5_bestSet) (maxL := 7) (ret := (some .int)) (n := 2) (As := [.int x1, .int (-9 : Int32)]) (rest := []) (rv := (some (.int v8))) (h1 := h7) (st0 := [.int (-9 : Int32), .int x1, .ref 20]) (st2 := [.int v8]) (by decide) rfl rfl (ct_X5_bestSet (kL k) ch7) wf_855 wf_857 wf_45 wf_54 wf_858 rfl rfl (by decide +kernel) ⟨by decide, by decide⟩ rfl (Nat.le_of_ble_eq_true rfl) dX5_telegram_25 rfl rfl ?_
      refine V.istore_n (pc := 28) C (i := 3) (lv2 := [(3, .int v8), (0, .ref 20), (1, .int x1), (2, .int x2)]) dX5_telegram_28 rfl (by decide) rfl ?_
      refine V.iload_n (pc := 29) C dX5_telegram_29 3 rfl ?_
      refine V.if_ne (pc := 30) C (tgt := 42) dX5_telegram_30 (by decide) (fun c9 => ?_) (fun c9 => ?_)
      · have hs := o_el c9 hs
        refine V.iload_n (pc := 42) C dX5_telegram_42 0 rfl ?_
        exact V.iret (pc := 43) C T hs dX5_telegram_43
      · have hs := o_if c9 hs
        refine V.aload_n (pc := 33) C dX5_telegram_33 1 rfl ?_
        refine V.iload_n (pc := 34) C dX5_telegram_34 0 rfl ?_
        refine V.iconst (pc := 35) C (v := (1 : Int32)) dX5_telegram_35 (by decide) ?_
        obtain ⟨v11, h10, ch10, hs⟩ := o_b2 hs
        refine V.callV (pc := 36) C (o := 20) (rm := rmX5_sumOf) (y := yX5_sumOf) (bytes := cX5_sumOf) (maxL := 5) (ret := (some .int)) (n := 2) (As := [.int v8, .int (1 : Int32)]) (rest := []) (rv := (some (.int v11))) (h1 := h10) (st0 := [.int (1 : Int32), .int v8, .ref 20]) (st2 := [.int v11]) (by decide) rfl rfl (ct_X5_sumOf (kL k) ch10) wf_807 wf_809 wf_37 wf_54 wf_810 rfl rfl (by decide +kernel) ⟨by decide, by decide⟩ rfl (Nat.le_of_ble_eq_true rfl) dX5_telegram_36 rfl rfl ?_
        refine V.goto (pc := 39) C (tgt := 43) dX5_telegram_39 (by decide) ?_
        exact V.iret (pc := 43) C T hs dX5_telegram_43
    · have hs := o_if c6 hs
      refine V.iconst (pc := 19) C (v := (-1 : Int32)) dX5_telegram_19 (by decide) ?_
      exact V.iret (pc := 20) C T hs dX5_telegram_20
abbrev rmX5_begun : Room := { frames := 2, cells := 0, slots := 0, locals := 48 }
set_option maxRecDepth 20000 in
theorem ct_X5_begun (l : Launch) {x1 : Int32} {x2 : Int32} {h hf : Hp} {r : Int32} (hs : X5_begun x1 x2 h = some (r, hf)) : Ct l yX5_begun (Cond.code yX5_begun cX5_begun 3 (some .int) :: wsG) rmX5_begun [.ref 20, .int x1, .int x2] h (some (.int r)) hf := by
  refine Ct.of (by decide +kernel) (fun _ => Nat.le_of_ble_eq_true rfl) (fun k C T => ?_)
  unfold X5_begun at hs
  show V k rmX5_begun 3 0 [(0, .ref 20), (1, .int x1), (2, .int x2)] [] h
  refine V.aload_n (pc := 0) C dX5_begun_0 0 rfl ?_
  refine V.iload_n (pc := 1) C dX5_begun_1 1 rfl ?_
  obtain ⟨v2, h1, ch1, hs⟩ := o_b2 hs
  refine V.callV (pc := 2) C (o := 20) (rm := rmX5_isSize) (y := yX5_isSize) (bytes := cX5_isSize) (maxL := 2) (ret := (some .boolean)) (n := 1) (As := [.int x1]) (rest := []) (rv := (some (.int v2))) (h1 := h1) (st0 := [.int x1, .ref 20]) (st2 := [.int v2]) (by decide) rfl rfl (ct_X5_isSize (kL k) ch1) wf_815 wf_817 wf_38 wf_54 wf_818 rfl rfl (by decide +kernel) ⟨by decide, by decide⟩ rfl (Nat.le_of_ble_eq_true rfl) dX5_begun_2 rfl rfl ?_
  refine V.if_eq (pc := 5) C (tgt := 18) dX5_begun_5 (by decide) (fun c3 => ?_) (fun c3 => ?_)
  · have hs := o_if c3 hs
    refine V.iconst (pc := 18) C (v := (-1 : Int32)) dX5_begun_18 (by decide) ?_
    exact V.iret (pc := 19) C T hs dX5_begun_19
  · have hs := o_el c3 hs
    refine V.iload_n (pc := 8) C dX5_begun_8 2 rfl ?_
    refine V.iconst (pc := 9) C (v := (0 : Int32)) dX5_begun_9 (by decide) ?_
    refine V.bipush (pc := 10) C (v := (60 : Int32)) dX5_begun_10 (by decide) ?_
    obtain ⟨v5, h4, ch4, hs⟩ := o_b2 hs
    refine V.callS (pc := 12) C (rm := rmX5_in) (y := yX5_in) (bytes := cX5_in) (maxL := 3) (ret := (some .boolean)) (n := 3) (As := [.int x2, .int (0 : Int32), .int (60 : Int32)]) (rest := []) (rv := (some (.int v5))) (h1 := h4) (st0 := [.int (60 : Int32), .int (0 : Int32), .int x2]) (st2 := [.int v5]) (ct_X5_in (kL k) ch4) wf_693 wf_694 wf_54 wf_695 rfl rfl (by decide +kernel) ⟨by decide, by decide⟩ rfl (Nat.le_of_ble_eq_true rfl) dX5_begun_12 rfl rfl ?_
    refine V.if_ne (pc := 15) C (tgt := 20) dX5_begun_15 (by decide) (fun c6 => ?_) (fun c6 => ?_)
    · have hs := o_el c6 hs
      refine V.aload_n (pc := 20) C dX5_begun_20 0 rfl ?_
      refine V.iload_n (pc := 21) C dX5_begun_21 1 rfl ?_
      obtain ⟨h7, ch7, hs⟩ := o_bind hs
      refine V.callV (pc := 22) C (o := 20) (rm := rmX5_allSizes) (y := yX5_allSizes) (bytes := cX5_allSizes) (maxL := 3) (ret := none) (n := 1) (As := [.int x1]) (rest := []) (rv := none) (h1 := h7) (st0 := [.int x1, .ref 20]) (st2 := []) (by decide) rfl rfl (ct_X5_allSizes (kL k) ch7) wf_823 wf_825 wf_40 wf_54 wf_826 rfl rfl (by decide +kernel) ⟨by decide, by decide⟩ rfl (Nat.le_of_ble_eq_true rfl) dX5_begun_22 rfl rfl ?_
      refine V.aload_n (pc := 25) C dX5_begun_25 0 rfl ?_
      refine V.iload_n (pc := 26) C dX5_begun_26 2 rfl ?_
      refine V.put (pc := 27) C (o := 20) (j := 17) (v := x2) (by decide) rfl rfl inX5 (by decide) (by decide) wf_622 tyX5 tyX5_ok nmX5 rfl rfl rfl rfl dX5_begun_27 ?_
      refine V.aload_n (pc := 30) C dX5_begun_30 0 rfl ?_
      refine V.aload_n (pc := 31) C dX5_begun_31 0 rfl ?_
      obtain ⟨v9, h8, ch8, hs⟩ := o_b2 hs
      refine V.callV (pc := 32) C (o := 20) (rm := rmX5_all) (y := yX5_all) (bytes := cX5_all) (maxL := 1) (ret := (some .int)) (n := 0) (As := []) (rest := [.ref 20]) (rv := (some (.int v9))) (h1 := h8) (st0 := [.ref 20, .ref 20]) (st2 := [.int v9, .ref 20]) (by decide) rfl rfl (ct_X5_all (kL k) ch8) wf_819 wf_821 wf_39 wf_54 wf_822 rfl rfl (by decide +kernel) ⟨by decide, by decide⟩ rfl (Nat.le_of_ble_eq_true rfl) dX5_begun_32 rfl rfl ?_
      obtain ⟨v11, h10, ch10, hs⟩ := o_b2 hs
      refine V.callV (pc := 35) C (o := 20) (rm := rmX5_fillBy) (y := yX5_fillBy) (bytes := cX5_fillBy) (maxL := 7) (ret := (some .boolean)) (n := 1) (As := [.int v9]) (rest := []) (rv := (some (.int v11))) (h1 := h10) (st0 := [.int v9, .ref 20]) (st2 := [.int v11]) (by decide) rfl rfl (ct_X5_fillBy (kL k) ch10) wf_827 wf_829 wf_41 wf_54 wf_830 rfl rfl (by decide +kernel) ⟨by decide, by decide⟩ rfl (Nat.le_of_ble_eq_true rfl) dX5_begun_35 rfl rfl ?_
      refine V.pop (pc := 38) C dX5_begun_38 rfl ?_
      refine V.aload_n (pc := 39) C dX5_begun_39 0 rfl ?_
      refine V.getf (pc := 40) C (o := 20) (j := 20) (v := .int (h10.1 20 20)) (by decide) rfl rfl inX5 (by decide) (by decide) wf_625 rfl dX5_begun_40 ?_
      exact V.iret (pc := 43) C T hs dX5_begun_43
    · have hs := o_if c6 hs
      refine V.iconst (pc := 18) C (v := (-1 : Int32)) dX5_begun_18 (by decide) ?_
      exact V.iret (pc := 19) C T hs dX5_begun_19
abbrev rmX5_odds : Room := { frames := 2, cells := 0, slots := 0, locals := 48 }
set_option maxRecDepth 20000 in
theorem tb_X5_odds_106 {k : KX} (C : Cx k cX5_odds RX5 15 rmX5_odds) {r : Int64} {hf : Hp} (T : Rx k (some .long) (some (.long r)) hf) {K76 : Int32 → Int32 → Int32 → Int32 → Int64 → Int32 → Int64 → Int32 → Hp → Option (Int64 × Hp)} (hK76 : ∀ (x1 : Int32) (x2 : Int32) (x3 : Int32) (x4 : Int32) (x5 : Int64) (x7 : Int32) (x8 : Int64) (x10 : Int32) (h : Hp), K76 x1 x2 x3 x4 x5 x7 x8 x10 h = some (r, hf) → V k rmX5_odds 15 76 [(0, .ref 20), (1, .int x1), (2, .int x2), (3, .int x3), (4, .int x4), (5, .long x5), (7, .int x7), (8, .long x8), (10, .int x10)] [] h) (x1 : Int32) (x2 : Int32) (x3 : Int32) (x4 : Int32) (x5 : Int64) (x7 : Int32) (x10 : Int32) (s0 : Int64) (s1 : Int64) (h : Hp) (hs : X5_odds_b106 K76 x1 x2 x3 x4 x5 x7 x10 s0 s1 h = some (r, hf)) : V k rmX5_odds 15 106 [(0, .ref 20), (1, .int x1), (2, .int x2), (3, .int x3), (4, .int x4), (5, .long x5), (7, .int x7), (10, .int x10)] [.long s1, .long s0] h := by
  unfold X5_odds_b106 at hs
  refine V.lmul (pc := 106) C dX5_odds_106 ?_
  refine V.lstore (pc := 107) C (i := 8) (lv2 := [(8, .long (s0 * s1)), (0, .ref 20), (1, .int x1), (2, .int x2), (3, .int x3), (4, .int x4), (5, .long x5), (7, .int x7), (10, .int x10)]) dX5_odds_107 (by decide) rfl ?_
  refine V.iinc (pc := 109) C (j := 8) (v := (x10 + (1 : Int32))) (lv2 := [(10, .int (x10 + (1 : Int32))), (8, .long (s0 * s1)), (0, .ref 20), (1, .int x1), (2, .int x2), (3, .int x3), (4, .int x4), (5, .long x5), (7, .int x7)]) dX5_odds_109 rfl rfl (by decide) rfl ?_
  refine V.goto (pc := 112) C (tgt := 76) dX5_odds_112 (by decide) ?_
  refine V.sub [2, 3, 4, 5, 6, 7, 8, 1, 0] rfl ?_
  exact hK76 _ _ _ _ _ _ _ _ _ hs
set_option maxRecDepth 20000 in
theorem tb_X5_odds_152 {k : KX} (C : Cx k cX5_odds RX5 15 rmX5_odds) {r : Int64} {hf : Hp} (T : Rx k (some .long) (some (.long r)) hf) {K61 : Int32 → Int32 → Int32 → Int32 → Int64 → Int32 → Hp → Option (Int64 × Hp)} (hK61 : ∀ (x1 : Int32) (x2 : Int32) (x3 : Int32) (x4 : Int32) (x5 : Int64) (x7 : Int32) (h : Hp), K61 x1 x2 x3 x4 x5 x7 h = some (r, hf) → V k rmX5_odds 15 61 [(0, .ref 20), (1, .int x1), (2, .int x2), (3, .int x3), (4, .int x4), (5, .long x5), (7, .int x7)] [] h) (x1 : Int32) (x2 : Int32) (x3 : Int32) (x4 : Int32) (x7 : Int32) (s0 : Int64) (s1 : Int64) (h : Hp) (hs : X5_odds_b152 K61 x1 x2 x3 x4 x7 s0 s1 h = some (r, hf)) : V k rmX5_odds 15 152 [(0, .ref 20), (1, .int x1), (2, .int x2), (3, .int x3), (4, .int x4), (7, .int x7)] [.long s1, .long s0] h := by
  unfold X5_odds_b152 at hs
  refine V.ladd (pc := 152) C dX5_odds_152 ?_
  refine V.lstore (pc := 153) C (i := 5) (lv2 := [(5, .long (s0 + s1)), (0, .ref 20), (1, .int x1), (2, .int x2), (3, .int x3), (4, .int x4), (7, .int x7)]) dX5_odds_153 (by decide) rfl ?_
  refine V.iinc (pc := 155) C (j := 6) (v := (x7 + (1 : Int32))) (lv2 := [(7, .int (x7 + (1 : Int32))), (5, .long (s0 + s1)), (0, .ref 20), (1, .int x1), (2, .int x2), (3, .int x3), (4, .int x4)]) dX5_odds_155 rfl rfl (by decide) rfl ?_
  refine V.goto (pc := 158) C (tgt := 61) dX5_odds_158 (by decide) ?_
  refine V.sub [2, 3, 4, 5, 6, 1, 0] rfl ?_
  exact hK61 _ _ _ _ _ _ _ hs
set_option maxRecDepth 20000 in
theorem tb_X5_odds_151 {k : KX} (C : Cx k cX5_odds RX5 15 rmX5_odds) {r : Int64} {hf : Hp} (T : Rx k (some .long) (some (.long r)) hf) {K61 : Int32 → Int32 → Int32 → Int32 → Int64 → Int32 → Hp → Option (Int64 × Hp)} (hK61 : ∀ (x1 : Int32) (x2 : Int32) (x3 : Int32) (x4 : Int32) (x5 : Int64) (x7 : Int32) (h : Hp), K61 x1 x2 x3 x4 x5 x7 h = some (r, hf) → V k rmX5_odds 15 61 [(0, .ref 20), (1, .int x1), (2, .int x2), (3, .int x3), (4, .int x4), (5, .long x5), (7, .int x7)] [] h) (x1 : Int32) (x2 : Int32) (x3 : Int32) (x4 : Int32) (x7 : Int32) (s0 : Int64) (h : Hp) (hs : X5_odds_b151 K61 x1 x2 x3 x4 x7 s0 h = some (r, hf)) : V k rmX5_odds 15 151 [(0, .ref 20), (1, .int x1), (2, .int x2), (3, .int x3), (4, .int x4), (7, .int x7)] [.long s0] h := by
  unfold X5_odds_b151 at hs
  refine V.lconst (pc := 151) C (v := (0 : Int64)) dX5_odds_151 (by decide) ?_
  refine V.sub [0, 1, 2, 3, 4, 5] rfl ?_
  exact tb_X5_odds_152 C T hK61 _ _ _ _ _ _ _ _ hs
set_option maxRecDepth 20000 in
theorem tb_X5_odds_76 {k : KX} (C : Cx k cX5_odds RX5 15 rmX5_odds) {r : Int64} {hf : Hp} (T : Rx k (some .long) (some (.long r)) hf) {K61 : Int32 → Int32 → Int32 → Int32 → Int64 → Int32 → Hp → Option (Int64 × Hp)} (hK61 : ∀ (x1 : Int32) (x2 : Int32) (x3 : Int32) (x4 : Int32) (x5 : Int64) (x7 : Int32) (h : Hp), K61 x1 x2 x3 x4 x5 x7 h = some (r, hf) → V k rmX5_odds 15 61 [(0, .ref 20), (1, .int x1), (2, .int x2), (3, .int x3), (4, .int x4), (5, .long x5), (7, .int x7)] [] h) {K76 : Int32 → Int32 → Int32 → Int32 → Int64 → Int32 → Int64 → Int32 → Hp → Option (Int64 × Hp)} (hK76 : ∀ (x1 : Int32) (x2 : Int32) (x3 : Int32) (x4 : Int32) (x5 : Int64) (x7 : Int32) (x8 : Int64) (x10 : Int32) (h : Hp), K76 x1 x2 x3 x4 x5 x7 x8 x10 h = some (r, hf) → V k rmX5_odds 15 76 [(0, .ref 20), (1, .int x1), (2, .int x2), (3, .int x3), (4, .int x4), (5, .long x5), (7, .int x7), (8, .long x8), (10, .int x10)] [] h) (x1 : Int32) (x2 : Int32) (x3 : Int32) (x4 : Int32) (x5 : Int64) (x7 : Int32) (x8 : Int64) (x10 : Int32) (h : Hp) (hs : X5_odds_b76 K61 K76 x1 x2 x3 x4 x5 x7 x8 x10 h = some (r, hf)) : V k rmX5_odds 15 76 [(0, .ref 20), (1, .int x1), (2, .int x2), (3, .int x3), (4, .int x4), (5, .long x5), (7, .int x7), (8, .long x8), (10, .int x10)] [] h := by
  unfold X5_odds_b76 at hs
  refine V.iload (pc := 76) C dX5_odds_76 8 rfl ?_
  refine V.iload (pc := 78) C dX5_odds_78 4 rfl ?_
  refine V.icmp_ge (pc := 80) C (tgt := 115) dX5_odds_80 (by decide) (fun c13 => ?_) (fun c13 => ?_)
  · have hs := o_if c13 hs
    refine V.aload_n (pc := 115) C dX5_odds_115 0 rfl ?_
    refine V.iload_n (pc := 116) C dX5_odds_116 1 rfl ?_
    obtain ⟨h14, ch14, hs⟩ := o_bind hs
    refine V.callV (pc := 117) C (o := 20) (rm := rmX5_allSizes) (y := yX5_allSizes) (bytes := cX5_allSizes) (maxL := 3) (ret := none) (n := 1) (As := [.int x1]) (rest := []) (rv := none) (h1 := h14) (st0 := [.int x1, .ref 20]) (st2 := []) (by decide) rfl rfl (ct_X5_allSizes (kL k) ch14) wf_823 wf_825 wf_40 wf_54 wf_826 rfl rfl (by decide +kernel) ⟨by decide, by decide⟩ rfl (Nat.le_of_ble_eq_true rfl) dX5_odds_117 rfl rfl ?_
    refine V.aload_n (pc := 120) C dX5_odds_120 0 rfl ?_
    refine V.iload (pc := 121) C dX5_odds_121 6 rfl ?_
    refine V.put (pc := 123) C (o := 20) (j := 18) (v := x7) (by decide) rfl rfl inX5 (by decide) (by decide) wf_623 tyX5 tyX5_ok nmX5 rfl rfl rfl rfl dX5_odds_123 ?_
    refine V.lload (pc := 126) C dX5_odds_126 5 rfl ?_
    refine V.lload (pc := 128) C dX5_odds_128 7 rfl ?_
    refine V.lconst (pc := 130) C (v := (0 : Int64)) dX5_odds_130 (by decide) ?_
    refine V.lcmp (pc := 131) C dX5_odds_131 ?_
    refine V.if_le (pc := 132) C (tgt := 151) dX5_odds_132 (by decide) (fun c15 => ?_) (fun c15 => ?_)
    · have hs := o_if c15 hs
      refine V.sub [0, 1, 2, 3, 4, 6] rfl ?_
      exact tb_X5_odds_151 C T hK61 _ _ _ _ _ _ _ hs
    · have hs := o_el c15 hs
      refine V.aload_n (pc := 135) C dX5_odds_135 0 rfl ?_
      refine V.aload_n (pc := 136) C dX5_odds_136 0 rfl ?_
      obtain ⟨v17, h16, ch16, hs⟩ := o_b2 hs
      refine V.callV (pc := 137) C (o := 20) (rm := rmX5_all) (y := yX5_all) (bytes := cX5_all) (maxL := 1) (ret := (some .int)) (n := 0) (As := []) (rest := [.ref 20, .long x5]) (rv := (some (.int v17))) (h1 := h16) (st0 := [.ref 20, .ref 20, .long x5]) (st2 := [.int v17, .ref 20, .long x5]) (by decide) rfl rfl (ct_X5_all (kL k) ch16) wf_819 wf_821 wf_39 wf_54 wf_822 rfl rfl (by decide +kernel) ⟨by decide, by decide⟩ rfl (Nat.le_of_ble_eq_true rfl) dX5_odds_137 rfl rfl ?_
      obtain ⟨v19, h18, ch18, hs⟩ := o_b2 hs
      refine V.callV (pc := 140) C (o := 20) (rm := rmX5_fillBy) (y := yX5_fillBy) (bytes := cX5_fillBy) (maxL := 7) (ret := (some .boolean)) (n := 1) (As := [.int v17]) (rest := [.long x5]) (rv := (some (.int v19))) (h1 := h18) (st0 := [.int v17, .ref 20, .long x5]) (st2 := [.int v19, .long x5]) (by decide) rfl rfl (ct_X5_fillBy (kL k) ch18) wf_827 wf_829 wf_41 wf_54 wf_830 rfl rfl (by decide +kernel) ⟨by decide, by decide⟩ rfl (Nat.le_of_ble_eq_true rfl) dX5_odds_140 rfl rfl ?_
      refine V.if_eq (pc := 143) C (tgt := 151) dX5_odds_143 (by decide) (fun c20 => ?_) (fun c20 => ?_)
      · have hs := o_if c20 hs
        refine V.sub [0, 1, 2, 3, 4, 6] rfl ?_
        exact tb_X5_odds_151 C T hK61 _ _ _ _ _ _ _ hs
      · have hs := o_el c20 hs
        refine V.lload (pc := 146) C dX5_odds_146 7 rfl ?_
        refine V.goto (pc := 148) C (tgt := 152) dX5_odds_148 (by decide) ?_
        refine V.sub [0, 1, 2, 3, 4, 6] rfl ?_
        exact tb_X5_odds_152 C T hK61 _ _ _ _ _ _ _ _ hs
  · have hs := o_el c13 hs
    refine V.lload (pc := 83) C dX5_odds_83 7 rfl ?_
    refine V.iload (pc := 85) C dX5_odds_85 6 rfl ?_
    refine V.iload (pc := 87) C dX5_odds_87 8 rfl ?_
    refine V.ishr (pc := 89) C dX5_odds_89 ?_
    refine V.iconst (pc := 90) C (v := (1 : Int32)) dX5_odds_90 (by decide) ?_
    refine V.iand (pc := 91) C dX5_odds_91 ?_
    refine V.iconst (pc := 92) C (v := (1 : Int32)) dX5_odds_92 (by decide) ?_
    refine V.icmp_ne (pc := 93) C (tgt := 101) dX5_odds_93 (by decide) (fun c21 => ?_) (fun c21 => ?_)
    · have hs := o_el c21 hs
      refine V.bipush (pc := 101) C (v := (10 : Int32)) dX5_odds_101 (by decide) ?_
      refine V.iload_n (pc := 103) C dX5_odds_103 2 rfl ?_
      refine V.isub (pc := 104) C dX5_odds_104 ?_
      refine V.i2l (pc := 105) C dX5_odds_105 ?_
      refine V.sub [0, 1, 2, 3, 4, 5, 6, 8] rfl ?_
      exact tb_X5_odds_106 C T hK76 _ _ _ _ _ _ _ _ _ _ hs
    · have hs := o_if c21 hs
      refine V.iload_n (pc := 96) C dX5_odds_96 2 rfl ?_
      refine V.i2l (pc := 97) C dX5_odds_97 ?_
      refine V.goto (pc := 98) C (tgt := 106) dX5_odds_98 (by decide) ?_
      refine V.sub [0, 1, 2, 3, 4, 5, 6, 8] rfl ?_
      exact tb_X5_odds_106 C T hK76 _ _ _ _ _ _ _ _ _ _ hs
theorem tl_X5_odds_76 {k : KX} (C : Cx k cX5_odds RX5 15 rmX5_odds) {r : Int64} {hf : Hp} (T : Rx k (some .long) (some (.long r)) hf) {K61 : Int32 → Int32 → Int32 → Int32 → Int64 → Int32 → Hp → Option (Int64 × Hp)} (hK61 : ∀ (x1 : Int32) (x2 : Int32) (x3 : Int32) (x4 : Int32) (x5 : Int64) (x7 : Int32) (h : Hp), K61 x1 x2 x3 x4 x5 x7 h = some (r, hf) → V k rmX5_odds 15 61 [(0, .ref 20), (1, .int x1), (2, .int x2), (3, .int x3), (4, .int x4), (5, .long x5), (7, .int x7)] [] h) : ∀ (n : Nat) (x1 : Int32) (x2 : Int32) (x3 : Int32) (x4 : Int32) (x5 : Int64) (x7 : Int32) (x8 : Int64) (x10 : Int32) (h : Hp), X5_odds_l76 K61 n x1 x2 x3 x4 x5 x7 x8 x10 h = some (r, hf) → V k rmX5_odds 15 76 [(0, .ref 20), (1, .int x1), (2, .int x2), (3, .int x3), (4, .int x4), (5, .long x5), (7, .int x7), (8, .long x8), (10, .int x10)] [] h := by
  intro n
  induction n with
  | zero => intro x1 x2 x3 x4 x5 x7 x8 x10 h hs; cases hs
  | succ n ih => intro x1 x2 x3 x4 x5 x7 x8 x10 h hs; exact tb_X5_odds_76 C T hK61 ih x1 x2 x3 x4 x5 x7 x8 x10 h hs
set_option maxRecDepth 20000 in
theorem tb_X5_odds_196 {k : KX} (C : Cx k cX5_odds RX5 15 rmX5_odds) {r : Int64} {hf : Hp} (T : Rx k (some .long) (some (.long r)) hf) {K196 : Int32 → Int64 → Int64 → Int64 → Int64 → Hp → Option (Int64 × Hp)} (hK196 : ∀ (x3 : Int32) (x5 : Int64) (x7 : Int64) (x9 : Int64) (x11 : Int64) (h : Hp), K196 x3 x5 x7 x9 x11 h = some (r, hf) → V k rmX5_odds 15 196 [(3, .int x3), (5, .long x5), (7, .long x7), (9, .long x9), (11, .long x11)] [] h) (x3 : Int32) (x5 : Int64) (x7 : Int64) (x9 : Int64) (x11 : Int64) (h : Hp) (hs : X5_odds_b196 K196 x3 x5 x7 x9 x11 h = some (r, hf)) : V k rmX5_odds 15 196 [(3, .int x3), (5, .long x5), (7, .long x7), (9, .long x9), (11, .long x11)] [] h := by
  unfold X5_odds_b196 at hs
  refine V.lload (pc := 196) C dX5_odds_196 4 rfl ?_
  refine V.lconst (pc := 198) C (v := (0 : Int64)) dX5_odds_198 (by decide) ?_
  refine V.lcmp (pc := 199) C dX5_odds_199 ?_
  refine V.if_eq (pc := 200) C (tgt := 221) dX5_odds_200 (by decide) (fun c22 => ?_) (fun c22 => ?_)
  · have hs := o_if c22 hs
    refine V.iload_n (pc := 221) C dX5_odds_221 0 rfl ?_
    refine V.if_ne (pc := 222) C (tgt := 233) dX5_odds_222 (by decide) (fun c23 => ?_) (fun c23 => ?_)
    · have hs := o_el c23 hs
      refine V.lload (pc := 233) C dX5_odds_233 2 rfl ?_
      refine V.lload (pc := 235) C dX5_odds_235 3 rfl ?_
      obtain ⟨z24, hs⟩ := o_nz hs
      refine V.ldiv (pc := 237) C dX5_odds_237 z24 ?_
      exact V.lret (pc := 238) C T hs dX5_odds_238
    · have hs := o_if c23 hs
      refine V.lload (pc := 225) C dX5_odds_225 1 rfl ?_
      refine V.lload (pc := 227) C dX5_odds_227 3 rfl ?_
      obtain ⟨z25, hs⟩ := o_nz hs
      refine V.ldiv (pc := 229) C dX5_odds_229 z25 ?_
      refine V.goto (pc := 230) C (tgt := 238) dX5_odds_230 (by decide) ?_
      exact V.lret (pc := 238) C T hs dX5_odds_238
  · have hs := o_el c22 hs
    refine V.lload (pc := 203) C dX5_odds_203 3 rfl ?_
    refine V.lload (pc := 205) C dX5_odds_205 4 rfl ?_
    obtain ⟨z26, hs⟩ := o_nz hs
    refine V.lrem (pc := 207) C dX5_odds_207 z26 ?_
    refine V.lstore (pc := 208) C (i := 13) (lv2 := [(13, .long (x9 - x9 / x11 * x11)), (3, .int x3), (5, .long x5), (7, .long x7), (9, .long x9), (11, .long x11)]) dX5_odds_208 (by decide) rfl ?_
    refine V.lload (pc := 210) C dX5_odds_210 5 rfl ?_
    refine V.lstore (pc := 212) C (i := 9) (lv2 := [(9, .long x11), (13, .long (x9 - x9 / x11 * x11)), (3, .int x3), (5, .long x5), (7, .long x7), (11, .long x11)]) dX5_odds_212 (by decide) rfl ?_
    refine V.lload (pc := 214) C dX5_odds_214 1 rfl ?_
    refine V.lstore (pc := 216) C (i := 11) (lv2 := [(11, .long (x9 - x9 / x11 * x11)), (9, .long x11), (13, .long (x9 - x9 / x11 * x11)), (3, .int x3), (5, .long x5), (7, .long x7)]) dX5_odds_216 (by decide) rfl ?_
    refine V.goto (pc := 218) C (tgt := 196) dX5_odds_218 (by decide) ?_
    refine V.sub [3, 4, 5, 1, 0] rfl ?_
    exact hK196 _ _ _ _ _ _ hs
theorem tl_X5_odds_196 {k : KX} (C : Cx k cX5_odds RX5 15 rmX5_odds) {r : Int64} {hf : Hp} (T : Rx k (some .long) (some (.long r)) hf) : ∀ (n : Nat) (x3 : Int32) (x5 : Int64) (x7 : Int64) (x9 : Int64) (x11 : Int64) (h : Hp), X5_odds_l196 n x3 x5 x7 x9 x11 h = some (r, hf) → V k rmX5_odds 15 196 [(3, .int x3), (5, .long x5), (7, .long x7), (9, .long x9), (11, .long x11)] [] h := by
  intro n
  induction n with
  | zero => intro x3 x5 x7 x9 x11 h hs; cases hs
  | succ n ih => intro x3 x5 x7 x9 x11 h hs; exact tb_X5_odds_196 C T ih x3 x5 x7 x9 x11 h hs
set_option maxRecDepth 20000 in
theorem tb_X5_odds_167 {k : KX} (C : Cx k cX5_odds RX5 15 rmX5_odds) {r : Int64} {hf : Hp} (T : Rx k (some .long) (some (.long r)) hf) {K167 : Int32 → Int32 → Int64 → Int64 → Int32 → Hp → Option (Int64 × Hp)} (hK167 : ∀ (x3 : Int32) (x4 : Int32) (x5 : Int64) (x7 : Int64) (x9 : Int32) (h : Hp), K167 x3 x4 x5 x7 x9 h = some (r, hf) → V k rmX5_odds 15 167 [(3, .int x3), (4, .int x4), (5, .long x5), (7, .long x7), (9, .int x9)] [] h) (x3 : Int32) (x4 : Int32) (x5 : Int64) (x7 : Int64) (x9 : Int32) (h : Hp) (hs : X5_odds_b167 K167 x3 x4 x5 x7 x9 h = some (r, hf)) : V k rmX5_odds 15 167 [(3, .int x3), (4, .int x4), (5, .long x5), (7, .long x7), (9, .int x9)] [] h := by
  unfold X5_odds_b167 at hs
  refine V.iload (pc := 167) C dX5_odds_167 4 rfl ?_
  refine V.iload (pc := 169) C dX5_odds_169 1 rfl ?_
  refine V.icmp_ge (pc := 171) C (tgt := 188) dX5_odds_171 (by decide) (fun c12 => ?_) (fun c12 => ?_)
  · have hs := o_if c12 hs
    refine V.lload (pc := 188) C dX5_odds_188 2 rfl ?_
    refine V.lstore (pc := 190) C (i := 9) (lv2 := [(9, .long x5), (3, .int x3), (4, .int x4), (5, .long x5), (7, .long x7)]) dX5_odds_190 (by decide) rfl ?_
    refine V.lload (pc := 192) C dX5_odds_192 4 rfl ?_
    refine V.lstore (pc := 194) C (i := 11) (lv2 := [(11, .long x7), (9, .long x5), (3, .int x3), (4, .int x4), (5, .long x5), (7, .long x7)]) dX5_odds_194 (by decide) rfl ?_
    refine V.sub [2, 4, 5, 1, 0] rfl ?_
    exact tl_X5_odds_196 C T fu _ _ _ _ _ _ hs
  · have hs := o_el c12 hs
    refine V.lload (pc := 174) C dX5_odds_174 3 rfl ?_
    refine V.ldc2 (pc := 176) C wf_876 dX5_odds_176 ?_
    refine V.lmul (pc := 179) C dX5_odds_179 ?_
    refine V.lstore (pc := 180) C (i := 7) (lv2 := [(7, .long (x7 * (10 : Int64))), (3, .int x3), (4, .int x4), (5, .long x5), (9, .int x9)]) dX5_odds_180 (by decide) rfl ?_
    refine V.iinc (pc := 182) C (j := 4) (v := (x9 + (1 : Int32))) (lv2 := [(9, .int (x9 + (1 : Int32))), (7, .long (x7 * (10 : Int64))), (3, .int x3), (4, .int x4), (5, .long x5)]) dX5_odds_182 rfl rfl (by decide) rfl ?_
    refine V.goto (pc := 185) C (tgt := 167) dX5_odds_185 (by decide) ?_
    refine V.sub [2, 3, 4, 1, 0] rfl ?_
    exact hK167 _ _ _ _ _ _ hs
theorem tl_X5_odds_167 {k : KX} (C : Cx k cX5_odds RX5 15 rmX5_odds) {r : Int64} {hf : Hp} (T : Rx k (some .long) (some (.long r)) hf) : ∀ (n : Nat) (x3 : Int32) (x4 : Int32) (x5 : Int64) (x7 : Int64) (x9 : Int32) (h : Hp), X5_odds_l167 n x3 x4 x5 x7 x9 h = some (r, hf) → V k rmX5_odds 15 167 [(3, .int x3), (4, .int x4), (5, .long x5), (7, .long x7), (9, .int x9)] [] h := by
  intro n
  induction n with
  | zero => intro x3 x4 x5 x7 x9 h hs; cases hs
  | succ n ih => intro x3 x4 x5 x7 x9 h hs; exact tb_X5_odds_167 C T ih x3 x4 x5 x7 x9 h hs
set_option maxRecDepth 20000 in
theorem tb_X5_odds_61 {k : KX} (C : Cx k cX5_odds RX5 15 rmX5_odds) {r : Int64} {hf : Hp} (T : Rx k (some .long) (some (.long r)) hf) {K61 : Int32 → Int32 → Int32 → Int32 → Int64 → Int32 → Hp → Option (Int64 × Hp)} (hK61 : ∀ (x1 : Int32) (x2 : Int32) (x3 : Int32) (x4 : Int32) (x5 : Int64) (x7 : Int32) (h : Hp), K61 x1 x2 x3 x4 x5 x7 h = some (r, hf) → V k rmX5_odds 15 61 [(0, .ref 20), (1, .int x1), (2, .int x2), (3, .int x3), (4, .int x4), (5, .long x5), (7, .int x7)] [] h) (x1 : Int32) (x2 : Int32) (x3 : Int32) (x4 : Int32) (x5 : Int64) (x7 : Int32) (h : Hp) (hs : X5_odds_b61 K61 x1 x2 x3 x4 x5 x7 h = some (r, hf)) : V k rmX5_odds 15 61 [(0, .ref 20), (1, .int x1), (2, .int x2), (3, .int x3), (4, .int x4), (5, .long x5), (7, .int x7)] [] h := by
  unfold X5_odds_b61 at hs
  refine V.iload (pc := 61) C dX5_odds_61 6 rfl ?_
  refine V.iconst (pc := 63) C (v := (1 : Int32)) dX5_odds_63 (by decide) ?_
  refine V.iload (pc := 64) C dX5_odds_64 4 rfl ?_
  refine V.ishl (pc := 66) C dX5_odds_66 ?_
  refine V.icmp_ge (pc := 67) C (tgt := 161) dX5_odds_67 (by decide) (fun c11 => ?_) (fun c11 => ?_)
  · have hs := o_if c11 hs
    refine V.lconst (pc := 161) C (v := (1 : Int64)) dX5_odds_161 (by decide) ?_
    refine V.lstore (pc := 162) C (i := 7) (lv2 := [(7, .long (1 : Int64)), (0, .ref 20), (1, .int x1), (2, .int x2), (3, .int x3), (4, .int x4), (5, .long x5)]) dX5_odds_162 (by decide) rfl ?_
    refine V.iconst (pc := 164) C (v := (0 : Int32)) dX5_odds_164 (by decide) ?_
    refine V.istore (pc := 165) C (i := 9) (lv2 := [(9, .int (0 : Int32)), (7, .long (1 : Int64)), (0, .ref 20), (1, .int x1), (2, .int x2), (3, .int x3), (4, .int x4), (5, .long x5)]) dX5_odds_165 (by decide) rfl ?_
    refine V.sub [5, 6, 7, 1, 0] rfl ?_
    exact tl_X5_odds_167 C T fu _ _ _ _ _ _ hs
  · have hs := o_el c11 hs
    refine V.lconst (pc := 70) C (v := (1 : Int64)) dX5_odds_70 (by decide) ?_
    refine V.lstore (pc := 71) C (i := 8) (lv2 := [(8, .long (1 : Int64)), (0, .ref 20), (1, .int x1), (2, .int x2), (3, .int x3), (4, .int x4), (5, .long x5), (7, .int x7)]) dX5_odds_71 (by decide) rfl ?_
    refine V.iconst (pc := 73) C (v := (0 : Int32)) dX5_odds_73 (by decide) ?_
    refine V.istore (pc := 74) C (i := 10) (lv2 := [(10, .int (0 : Int32)), (8, .long (1 : Int64)), (0, .ref 20), (1, .int x1), (2, .int x2), (3, .int x3), (4, .int x4), (5, .long x5), (7, .int x7)]) dX5_odds_74 (by decide) rfl ?_
    refine V.sub [2, 3, 4, 5, 6, 7, 8, 1, 0] rfl ?_
    exact tl_X5_odds_76 C T hK61 fu _ _ _ _ _ _ _ _ _ hs
theorem tl_X5_odds_61 {k : KX} (C : Cx k cX5_odds RX5 15 rmX5_odds) {r : Int64} {hf : Hp} (T : Rx k (some .long) (some (.long r)) hf) : ∀ (n : Nat) (x1 : Int32) (x2 : Int32) (x3 : Int32) (x4 : Int32) (x5 : Int64) (x7 : Int32) (h : Hp), X5_odds_l61 n x1 x2 x3 x4 x5 x7 h = some (r, hf) → V k rmX5_odds 15 61 [(0, .ref 20), (1, .int x1), (2, .int x2), (3, .int x3), (4, .int x4), (5, .long x5), (7, .int x7)] [] h := by
  intro n
  induction n with
  | zero => intro x1 x2 x3 x4 x5 x7 h hs; cases hs
  | succ n ih => intro x1 x2 x3 x4 x5 x7 h hs; exact tb_X5_odds_61 C T ih x1 x2 x3 x4 x5 x7 h hs
set_option maxRecDepth 20000 in
theorem tb_X5_odds_53 {k : KX} (C : Cx k cX5_odds RX5 15 rmX5_odds) {r : Int64} {hf : Hp} (T : Rx k (some .long) (some (.long r)) hf) (x1 : Int32) (x2 : Int32) (x3 : Int32) (s0 : Int32) (h : Hp) (hs : X5_odds_b53 x1 x2 x3 s0 h = some (r, hf)) : V k rmX5_odds 15 53 [(0, .ref 20), (1, .int x1), (2, .int x2), (3, .int x3)] [.int s0] h := by
  unfold X5_odds_b53 at hs
  refine V.istore (pc := 53) C (i := 4) (lv2 := [(4, .int s0), (0, .ref 20), (1, .int x1), (2, .int x2), (3, .int x3)]) dX5_odds_53 (by decide) rfl ?_
  refine V.lconst (pc := 55) C (v := (0 : Int64)) dX5_odds_55 (by decide) ?_
  refine V.lstore (pc := 56) C (i := 5) (lv2 := [(5, .long (0 : Int64)), (4, .int s0), (0, .ref 20), (1, .int x1), (2, .int x2), (3, .int x3)]) dX5_odds_56 (by decide) rfl ?_
  refine V.iconst (pc := 58) C (v := (0 : Int32)) dX5_odds_58 (by decide) ?_
  refine V.istore (pc := 59) C (i := 7) (lv2 := [(7, .int (0 : Int32)), (5, .long (0 : Int64)), (4, .int s0), (0, .ref 20), (1, .int x1), (2, .int x2), (3, .int x3)]) dX5_odds_59 (by decide) rfl ?_
  refine V.sub [3, 4, 5, 6, 2, 1, 0] rfl ?_
  exact tl_X5_odds_61 C T fu _ _ _ _ _ _ _ hs
set_option maxRecDepth 20000 in
theorem ct_X5_odds (l : Launch) {x1 : Int32} {x2 : Int32} {x3 : Int32} {h hf : Hp} {r : Int64} (hs : X5_odds x1 x2 x3 h = some (r, hf)) : Ct l yX5_odds (Cond.code yX5_odds cX5_odds 15 (some .long) :: wsG) rmX5_odds [.ref 20, .int x1, .int x2, .int x3] h (some (.long r)) hf := by
  refine Ct.of (by decide +kernel) (fun _ => Nat.le_of_ble_eq_true rfl) (fun k C T => ?_)
  unfold X5_odds at hs
  show V k rmX5_odds 15 0 [(0, .ref 20), (1, .int x1), (2, .int x2), (3, .int x3)] [] h
  refine V.aload_n (pc := 0) C dX5_odds_0 0 rfl ?_
  refine V.iload_n (pc := 1) C dX5_odds_1 1 rfl ?_
  obtain ⟨v2, h1, ch1, hs⟩ := o_b2 hs
  refine V.callV (pc := 2) C (o := 20) (rm := rmX5_isSize) (y := yX5_isSize) (bytes := cX5_isSize) (maxL := 2) (ret := (some .boolean)) (n := 1) (As := [.int x1]) (rest := []) (rv := (some (.int v2))) (h1 := h1) (st0 := [.int x1, .ref 20]) (st2 := [.int v2]) (by decide) rfl rfl (ct_X5_isSize (kL k) ch1) wf_815 wf_817 wf_38 wf_54 wf_818 rfl rfl (by decide +kernel) ⟨by decide, by decide⟩ rfl (Nat.le_of_ble_eq_true rfl) dX5_odds_2 rfl rfl ?_
  refine V.if_eq (pc := 5) C (tgt := 27) dX5_odds_5 (by decide) (fun c3 => ?_) (fun c3 => ?_)
  · have hs := o_if c3 hs
    refine V.ldc2 (pc := 27) C wf_875 dX5_odds_27 ?_
    exact V.lret (pc := 30) C T hs dX5_odds_30
  · have hs := o_el c3 hs
    refine V.iload_n (pc := 8) C dX5_odds_8 2 rfl ?_
    refine V.iconst (pc := 9) C (v := (0 : Int32)) dX5_odds_9 (by decide) ?_
    refine V.bipush (pc := 10) C (v := (10 : Int32)) dX5_odds_10 (by decide) ?_
    obtain ⟨v5, h4, ch4, hs⟩ := o_b2 hs
    refine V.callS (pc := 12) C (rm := rmX5_in) (y := yX5_in) (bytes := cX5_in) (maxL := 3) (ret := (some .boolean)) (n := 3) (As := [.int x2, .int (0 : Int32), .int (10 : Int32)]) (rest := []) (rv := (some (.int v5))) (h1 := h4) (st0 := [.int (10 : Int32), .int (0 : Int32), .int x2]) (st2 := [.int v5]) (ct_X5_in (kL k) ch4) wf_693 wf_694 wf_54 wf_695 rfl rfl (by decide +kernel) ⟨by decide, by decide⟩ rfl (Nat.le_of_ble_eq_true rfl) dX5_odds_12 rfl rfl ?_
    refine V.if_eq (pc := 15) C (tgt := 27) dX5_odds_15 (by decide) (fun c6 => ?_) (fun c6 => ?_)
    · have hs := o_if c6 hs
      refine V.ldc2 (pc := 27) C wf_875 dX5_odds_27 ?_
      exact V.lret (pc := 30) C T hs dX5_odds_30
    · have hs := o_el c6 hs
      refine V.iload_n (pc := 18) C dX5_odds_18 3 rfl ?_
      refine V.iconst (pc := 19) C (v := (0 : Int32)) dX5_odds_19 (by decide) ?_
      refine V.iconst (pc := 20) C (v := (1 : Int32)) dX5_odds_20 (by decide) ?_
      obtain ⟨v8, h7, ch7, hs⟩ := o_b2 hs
      refine V.callS (pc := 21) C (rm := rmX5_in) (y := yX5_in) (bytes := cX5_in) (maxL := 3) (ret := (some .boolean)) (n := 3) (As := [.int x3, .int (0 : Int32), .int (1 : Int32)]) (rest := []) (rv := (some (.int v8))) (h1 := h7) (st0 := [.int (1 : Int32), .int (0 : Int32), .int x3]) (st2 := [.int v8]) (ct_X5_in (kL k) ch7) wf_693 wf_694 wf_54 wf_695 rfl rfl (by decide +kernel) ⟨by decide, by decide⟩ rfl (Nat.le_of_ble_eq_true rfl) dX5_odds_21 rfl rfl ?_
      refine V.if_ne (pc := 24) C (tgt := 31) dX5_odds_24 (by decide) (fun c9 => ?_) (fun c9 => ?_)
      · have hs := o_el c9 hs
        refine V.aload_n (pc := 31) C dX5_odds_31 0 rfl ?_
        refine V.getf (pc := 32) C (o := 20) (j := 5) (v := .ref 24) (by decide) rfl rfl inX5 (by decide) (by decide) wf_610 rfl dX5_odds_32 ?_
        refine V.iconst (pc := 35) C (v := (0 : Int32)) dX5_odds_35 (by decide) ?_
        refine V.iald (pc := 36) C (o := 24) (v := (h7.1 24 0)) (by decide) rfl rfl (by decide) rfl dX5_odds_36 ?_
        refine V.bipush (pc := 37) C (v := (9 : Int32)) dX5_odds_37 (by decide) ?_
        refine V.icmp_ge (pc := 39) C (tgt := 51) dX5_odds_39 (by decide) (fun c10 => ?_) (fun c10 => ?_)
        · have hs := o_if c10 hs
          refine V.bipush (pc := 51) C (v := (9 : Int32)) dX5_odds_51 (by decide) ?_
          refine V.sub [0, 1, 2, 3] rfl ?_
          exact tb_X5_odds_53 C T _ _ _ _ _ hs
        · have hs := o_el c10 hs
          refine V.aload_n (pc := 42) C dX5_odds_42 0 rfl ?_
          refine V.getf (pc := 43) C (o := 20) (j := 5) (v := .ref 24) (by decide) rfl rfl inX5 (by decide) (by decide) wf_610 rfl dX5_odds_43 ?_
          refine V.iconst (pc := 46) C (v := (0 : Int32)) dX5_odds_46 (by decide) ?_
          refine V.iald (pc := 47) C (o := 24) (v := (h7.1 24 0)) (by decide) rfl rfl (by decide) rfl dX5_odds_47 ?_
          refine V.goto (pc := 48) C (tgt := 53) dX5_odds_48 (by decide) ?_
          refine V.sub [0, 1, 2, 3] rfl ?_
          exact tb_X5_odds_53 C T _ _ _ _ _ hs
      · have hs := o_if c9 hs
        refine V.ldc2 (pc := 27) C wf_875 dX5_odds_27 ?_
        exact V.lret (pc := 30) C T hs dX5_odds_30
abbrev rmX5_saw : Room := { frames := 2, cells := 0, slots := 0, locals := 43 }
set_option maxRecDepth 20000 in
theorem ct_X5_saw (l : Launch) {x1 : Int32} {x2 : Int32} {h hf : Hp} {r : Int32} (hs : X5_saw x1 x2 h = some (r, hf)) : Ct l yX5_saw (Cond.code yX5_saw cX5_saw 3 (some .int) :: wsG) rmX5_saw [.ref 20, .int x1, .int x2] h (some (.int r)) hf := by
  refine Ct.of (by decide +kernel) (fun _ => Nat.le_of_ble_eq_true rfl) (fun k C T => ?_)
  unfold X5_saw at hs
  show V k rmX5_saw 3 0 [(0, .ref 20), (1, .int x1), (2, .int x2)] [] h
  refine V.aload_n (pc := 0) C dX5_saw_0 0 rfl ?_
  refine V.iload_n (pc := 1) C dX5_saw_1 1 rfl ?_
  obtain ⟨v2, h1, ch1, hs⟩ := o_b2 hs
  refine V.callV (pc := 2) C (o := 20) (rm := rmX5_isPiece) (y := yX5_isPiece) (bytes := cX5_isPiece) (maxL := 2) (ret := (some .boolean)) (n := 1) (As := [.int x1]) (rest := []) (rv := (some (.int v2))) (h1 := h1) (st0 := [.int x1, .ref 20]) (st2 := [.int v2]) (by decide) rfl rfl (ct_X5_isPiece (kL k) ch1) wf_740 wf_742 wf_29 wf_54 wf_743 rfl rfl (by decide +kernel) ⟨by decide, by decide⟩ rfl (Nat.le_of_ble_eq_true rfl) dX5_saw_2 rfl rfl ?_
  refine V.if_eq (pc := 5) C (tgt := 16) dX5_saw_5 (by decide) (fun c3 => ?_) (fun c3 => ?_)
  · have hs := o_if c3 hs
    refine V.iconst (pc := 16) C (v := (-1 : Int32)) dX5_saw_16 (by decide) ?_
    exact V.iret (pc := 17) C T hs dX5_saw_17
  · have hs := o_el c3 hs
    refine V.aload_n (pc := 8) C dX5_saw_8 0 rfl ?_
    refine V.iload_n (pc := 9) C dX5_saw_9 2 rfl ?_
    obtain ⟨v5, h4, ch4, hs⟩ := o_b2 hs
    refine V.callV (pc := 10) C (o := 20) (rm := rmX5_isLine) (y := yX5_isLine) (bytes := cX5_isLine) (maxL := 2) (ret := (some .boolean)) (n := 1) (As := [.int x2]) (rest := []) (rv := (some (.int v5))) (h1 := h4) (st0 := [.int x2, .ref 20]) (st2 := [.int v5]) (by decide) rfl rfl (ct_X5_isLine (kL k) ch4) wf_732 wf_734 wf_28 wf_54 wf_735 rfl rfl (by decide +kernel) ⟨by decide, by decide⟩ rfl (Nat.le_of_ble_eq_true rfl) dX5_saw_10 rfl rfl ?_
    refine V.if_ne (pc := 13) C (tgt := 18) dX5_saw_13 (by decide) (fun c6 => ?_) (fun c6 => ?_)
    · have hs := o_el c6 hs
      refine V.aload_n (pc := 18) C dX5_saw_18 0 rfl ?_
      refine V.getf (pc := 19) C (o := 20) (j := 26) (v := .int (h4.1 20 26)) (by decide) rfl rfl inX5 (by decide) (by decide) wf_631 rfl dX5_saw_19 ?_
      refine V.bipush (pc := 22) C (v := (6 : Int32)) dX5_saw_22 (by decide) ?_
      refine V.icmp_ne (pc := 24) C (tgt := 30) dX5_saw_24 (by decide) (fun c7 => ?_) (fun c7 => ?_)
      · have hs := o_el c7 hs
        refine V.aload_n (pc := 30) C dX5_saw_30 0 rfl ?_
        refine V.getf (pc := 31) C (o := 20) (j := 24) (v := .ref 32) (by decide) rfl rfl inX5 (by decide) (by decide) wf_629 rfl dX5_saw_31 ?_
        refine V.aload_n (pc := 34) C dX5_saw_34 0 rfl ?_
        refine V.getf (pc := 35) C (o := 20) (j := 26) (v := .int (h4.1 20 26)) (by decide) rfl rfl inX5 (by decide) (by decide) wf_631 rfl dX5_saw_35 ?_
        refine V.iload_n (pc := 38) C dX5_saw_38 1 rfl ?_
        obtain ⟨h8, eh8, bh8, hs⟩ := o_st hs
        refine V.iast (pc := 39) C (o := 32) (h2 := h8) (by decide) rfl rfl bh8 eh8 dX5_saw_39 ?_
        refine V.aload_n (pc := 40) C dX5_saw_40 0 rfl ?_
        refine V.getf (pc := 41) C (o := 20) (j := 25) (v := .ref 33) (by decide) rfl rfl inX5 (by decide) (by decide) wf_630 rfl dX5_saw_41 ?_
        refine V.aload_n (pc := 44) C dX5_saw_44 0 rfl ?_
        refine V.getf (pc := 45) C (o := 20) (j := 26) (v := .int (h8.1 20 26)) (by decide) rfl rfl inX5 (by decide) (by decide) wf_631 rfl dX5_saw_45 ?_
        refine V.iload_n (pc := 48) C dX5_saw_48 2 rfl ?_
        obtain ⟨h9, eh9, bh9, hs⟩ := o_st hs
        refine V.iast (pc := 49) C (o := 33) (h2 := h9) (by decide) rfl rfl bh9 eh9 dX5_saw_49 ?_
        refine V.aload_n (pc := 50) C dX5_saw_50 0 rfl ?_
        refine V.dup (pc := 51) C dX5_saw_51 rfl ?_
        refine V.getf (pc := 52) C (o := 20) (j := 26) (v := .int (h9.1 20 26)) (by decide) rfl rfl inX5 (by decide) (by decide) wf_631 rfl dX5_saw_52 ?_
        refine V.iconst (pc := 55) C (v := (1 : Int32)) dX5_saw_55 (by decide) ?_
        refine V.iadd (pc := 56) C dX5_saw_56 ?_
        refine V.put (pc := 57) C (o := 20) (j := 26) (v := ((h9.1 20 26) + (1 : Int32))) (by decide) rfl rfl inX5 (by decide) (by decide) wf_631 tyX5 tyX5_ok nmX5 rfl rfl rfl rfl dX5_saw_57 ?_
        refine V.aload_n (pc := 60) C dX5_saw_60 0 rfl ?_
        refine V.getf (pc := 61) C (o := 20) (j := 26) (v := .int ((h9.1 20 26) + (1 : Int32))) (by decide) rfl rfl inX5 (by decide) (by decide) wf_631 rfl dX5_saw_61 ?_
        exact V.iret (pc := 64) C T hs dX5_saw_64
      · have hs := o_if c7 hs
        refine V.bipush (pc := 27) C (v := (-3 : Int32)) dX5_saw_27 (by decide) ?_
        exact V.iret (pc := 29) C T hs dX5_saw_29
    · have hs := o_if c6 hs
      refine V.iconst (pc := 16) C (v := (-1 : Int32)) dX5_saw_16 (by decide) ?_
      exact V.iret (pc := 17) C T hs dX5_saw_17
abbrev rmX5_forget : Room := { frames := 0, cells := 0, slots := 0, locals := 0 }
set_option maxRecDepth 20000 in
theorem ct_X5_forget (l : Launch) {h hf : Hp} {r : Int32} (hs : X5_forget h = some (r, hf)) : Ct l yX5_forget (Cond.code yX5_forget cX5_forget 2 (some .int) :: wsG) rmX5_forget [.ref 20] h (some (.int r)) hf := by
  refine Ct.of (by decide +kernel) (fun _ => Nat.le_of_ble_eq_true rfl) (fun k C T => ?_)
  unfold X5_forget at hs
  show V k rmX5_forget 2 0 [(0, .ref 20)] [] h
  refine V.aload_n (pc := 0) C dX5_forget_0 0 rfl ?_
  refine V.getf (pc := 1) C (o := 20) (j := 26) (v := .int (h.1 20 26)) (by decide) rfl rfl inX5 (by decide) (by decide) wf_631 rfl dX5_forget_1 ?_
  refine V.istore_n (pc := 4) C (i := 1) (lv2 := [(1, .int (h.1 20 26)), (0, .ref 20)]) dX5_forget_4 rfl (by decide) rfl ?_
  refine V.aload_n (pc := 5) C dX5_forget_5 1 rfl ?_
  refine V.iconst (pc := 6) C (v := (0 : Int32)) dX5_forget_6 (by decide) ?_
  refine V.put (pc := 7) C (o := 20) (j := 26) (v := (0 : Int32)) (by decide) rfl rfl inX5 (by decide) (by decide) wf_631 tyX5 tyX5_ok nmX5 rfl rfl rfl rfl dX5_forget_7 ?_
  refine V.iload_n (pc := 10) C dX5_forget_10 0 rfl ?_
  exact V.iret (pc := 11) C T hs dX5_forget_11
abbrev rmX5_sizes : Room := { frames := 3, cells := 0, slots := 0, locals := 70 }
set_option maxRecDepth 20000 in
theorem tb_X5_sizes_67 {k : KX} (C : Cx k cX5_sizes RX5 5 rmX5_sizes) {r : Int32} {hf : Hp} (T : Rx k (some .int) (some (.int r)) hf) {K27 : Int32 → Int32 → Int32 → Int32 → Hp → Option (Int32 × Hp)} (hK27 : ∀ (x1 : Int32) (x2 : Int32) (x3 : Int32) (x4 : Int32) (h : Hp), K27 x1 x2 x3 x4 h = some (r, hf) → V k rmX5_sizes 5 27 [(0, .ref 20), (1, .int x1), (2, .int x2), (3, .int x3), (4, .int x4)] [] h) (x1 : Int32) (x2 : Int32) (x4 : Int32) (s0 : Int32) (h : Hp) (hs : X5_sizes_b67 K27 x1 x2 x4 s0 h = some (r, hf)) : V k rmX5_sizes 5 67 [(0, .ref 20), (1, .int x1), (2, .int x2), (4, .int x4)] [.int s0] h := by
  unfold X5_sizes_b67 at hs
  refine V.istore_n (pc := 67) C (i := 3) (lv2 := [(3, .int s0), (0, .ref 20), (1, .int x1), (2, .int x2), (4, .int x4)]) dX5_sizes_67 rfl (by decide) rfl ?_
  refine V.iinc (pc := 68) C (j := 4) (v := (x4 + (1 : Int32))) (lv2 := [(4, .int (x4 + (1 : Int32))), (3, .int s0), (0, .ref 20), (1, .int x1), (2, .int x2)]) dX5_sizes_68 rfl rfl (by decide) rfl ?_
  refine V.goto (pc := 71) C (tgt := 27) dX5_sizes_71 (by decide) ?_
  refine V.sub [2, 3, 4, 1, 0] rfl ?_
  exact hK27 _ _ _ _ _ hs
set_option maxRecDepth 20000 in
theorem tb_X5_sizes_86 {k : KX} (C : Cx k cX5_sizes RX5 5 rmX5_sizes) {r : Int32} {hf : Hp} (T : Rx k (some .int) (some (.int r)) hf) {K9 : Int32 → Int32 → Hp → Option (Int32 × Hp)} (hK9 : ∀ (x1 : Int32) (x2 : Int32) (h : Hp), K9 x1 x2 h = some (r, hf) → V k rmX5_sizes 5 9 [(0, .ref 20), (1, .int x1), (2, .int x2)] [] h) (x2 : Int32) (s0 : Int32) (s1 : Int32) (h : Hp) (hs : X5_sizes_b86 K9 x2 s0 s1 h = some (r, hf)) : V k rmX5_sizes 5 86 [(0, .ref 20), (2, .int x2)] [.int s1, .int s0] h := by
  unfold X5_sizes_b86 at hs
  refine V.ior (pc := 86) C dX5_sizes_86 ?_
  refine V.istore_n (pc := 87) C (i := 1) (lv2 := [(1, .int (s0 ||| s1)), (0, .ref 20), (2, .int x2)]) dX5_sizes_87 rfl (by decide) rfl ?_
  refine V.iinc (pc := 88) C (j := 2) (v := (x2 + (1 : Int32))) (lv2 := [(2, .int (x2 + (1 : Int32))), (1, .int (s0 ||| s1)), (0, .ref 20)]) dX5_sizes_88 rfl rfl (by decide) rfl ?_
  refine V.goto (pc := 91) C (tgt := 9) dX5_sizes_91 (by decide) ?_
  refine V.sub [2, 1, 0] rfl ?_
  exact hK9 _ _ _ hs
set_option maxRecDepth 20000 in
theorem tb_X5_sizes_74 {k : KX} (C : Cx k cX5_sizes RX5 5 rmX5_sizes) {r : Int32} {hf : Hp} (T : Rx k (some .int) (some (.int r)) hf) {K9 : Int32 → Int32 → Hp → Option (Int32 × Hp)} (hK9 : ∀ (x1 : Int32) (x2 : Int32) (h : Hp), K9 x1 x2 h = some (r, hf) → V k rmX5_sizes 5 9 [(0, .ref 20), (1, .int x1), (2, .int x2)] [] h) (x1 : Int32) (x2 : Int32) (x3 : Int32) (h : Hp) (hs : X5_sizes_b74 K9 x1 x2 x3 h = some (r, hf)) : V k rmX5_sizes 5 74 [(0, .ref 20), (1, .int x1), (2, .int x2), (3, .int x3)] [] h := by
  unfold X5_sizes_b74 at hs
  refine V.iload_n (pc := 74) C dX5_sizes_74 1 rfl ?_
  refine V.iload_n (pc := 75) C dX5_sizes_75 3 rfl ?_
  refine V.if_eq (pc := 76) C (tgt := 85) dX5_sizes_76 (by decide) (fun c12 => ?_) (fun c12 => ?_)
  · have hs := o_if c12 hs
    refine V.iconst (pc := 85) C (v := (0 : Int32)) dX5_sizes_85 (by decide) ?_
    refine V.sub [0, 2] rfl ?_
    exact tb_X5_sizes_86 C T hK9 _ _ _ _ hs
  · have hs := o_el c12 hs
    refine V.iconst (pc := 79) C (v := (1 : Int32)) dX5_sizes_79 (by decide) ?_
    refine V.iload_n (pc := 80) C dX5_sizes_80 2 rfl ?_
    refine V.ishl (pc := 81) C dX5_sizes_81 ?_
    refine V.goto (pc := 82) C (tgt := 86) dX5_sizes_82 (by decide) ?_
    refine V.sub [0, 2] rfl ?_
    exact tb_X5_sizes_86 C T hK9 _ _ _ _ hs
set_option maxRecDepth 20000 in
theorem tb_X5_sizes_27 {k : KX} (C : Cx k cX5_sizes RX5 5 rmX5_sizes) {r : Int32} {hf : Hp} (T : Rx k (some .int) (some (.int r)) hf) {K9 : Int32 → Int32 → Hp → Option (Int32 × Hp)} (hK9 : ∀ (x1 : Int32) (x2 : Int32) (h : Hp), K9 x1 x2 h = some (r, hf) → V k rmX5_sizes 5 9 [(0, .ref 20), (1, .int x1), (2, .int x2)] [] h) {K27 : Int32 → Int32 → Int32 → Int32 → Hp → Option (Int32 × Hp)} (hK27 : ∀ (x1 : Int32) (x2 : Int32) (x3 : Int32) (x4 : Int32) (h : Hp), K27 x1 x2 x3 x4 h = some (r, hf) → V k rmX5_sizes 5 27 [(0, .ref 20), (1, .int x1), (2, .int x2), (3, .int x3), (4, .int x4)] [] h) (x1 : Int32) (x2 : Int32) (x3 : Int32) (x4 : Int32) (h : Hp) (hs : X5_sizes_b27 K9 K27 x1 x2 x3 x4 h = some (r, hf)) : V k rmX5_sizes 5 27 [(0, .ref 20), (1, .int x1), (2, .int x2), (3, .int x3), (4, .int x4)] [] h := by
  unfold X5_sizes_b27 at hs
  refine V.iload (pc := 27) C dX5_sizes_27 4 rfl ?_
  refine V.aload_n (pc := 29) C dX5_sizes_29 0 rfl ?_
  refine V.getf (pc := 30) C (o := 20) (j := 26) (v := .int (h.1 20 26)) (by decide) rfl rfl inX5 (by decide) (by decide) wf_631 rfl dX5_sizes_30 ?_
  refine V.icmp_ge (pc := 33) C (tgt := 74) dX5_sizes_33 (by decide) (fun c6 => ?_) (fun c6 => ?_)
  · have hs := o_if c6 hs
    refine V.sub [0, 1, 2, 3] rfl ?_
    exact tb_X5_sizes_74 C T hK9 _ _ _ _ hs
  · have hs := o_el c6 hs
    refine V.iload_n (pc := 36) C dX5_sizes_36 3 rfl ?_
    refine V.if_eq (pc := 37) C (tgt := 74) dX5_sizes_37 (by decide) (fun c7 => ?_) (fun c7 => ?_)
    · have hs := o_if c7 hs
      refine V.sub [0, 1, 2, 3] rfl ?_
      exact tb_X5_sizes_74 C T hK9 _ _ _ _ hs
    · have hs := o_el c7 hs
      refine V.aload_n (pc := 40) C dX5_sizes_40 0 rfl ?_
      refine V.getf (pc := 41) C (o := 20) (j := 19) (v := .ref 30) (by decide) rfl rfl inX5 (by decide) (by decide) wf_624 rfl dX5_sizes_41 ?_
      refine V.aload_n (pc := 44) C dX5_sizes_44 0 rfl ?_
      refine V.getf (pc := 45) C (o := 20) (j := 24) (v := .ref 32) (by decide) rfl rfl inX5 (by decide) (by decide) wf_629 rfl dX5_sizes_45 ?_
      refine V.iload (pc := 48) C dX5_sizes_48 4 rfl ?_
      obtain ⟨v8, ev8, bv8, hs⟩ := o_ld hs
      refine V.iald (pc := 50) C (o := 32) (v := v8) (by decide) rfl rfl bv8 ev8 dX5_sizes_50 ?_
      obtain ⟨v9, ev9, bv9, hs⟩ := o_ld hs
      refine V.iald (pc := 51) C (o := 30) (v := v9) (by decide) rfl rfl bv9 ev9 dX5_sizes_51 ?_
      refine V.aload_n (pc := 52) C dX5_sizes_52 0 rfl ?_
      refine V.getf (pc := 53) C (o := 20) (j := 25) (v := .ref 33) (by decide) rfl rfl inX5 (by decide) (by decide) wf_630 rfl dX5_sizes_53 ?_
      refine V.iload (pc := 56) C dX5_sizes_56 4 rfl ?_
      obtain ⟨v10, ev10, bv10, hs⟩ := o_ld hs
      refine V.iald (pc := 58) C (o := 33) (v := v10) (by decide) rfl rfl bv10 ev10 dX5_sizes_58 ?_
      refine V.icmp_ne (pc := 59) C (tgt := 66) dX5_sizes_59 (by decide) (fun c11 => ?_) (fun c11 => ?_)
      · have hs := o_el c11 hs
        refine V.iconst (pc := 66) C (v := (0 : Int32)) dX5_sizes_66 (by decide) ?_
        refine V.sub [0, 1, 2, 4] rfl ?_
        exact tb_X5_sizes_67 C T hK27 _ _ _ _ _ hs
      · have hs := o_if c11 hs
        refine V.iconst (pc := 62) C (v := (1 : Int32)) dX5_sizes_62 (by decide) ?_
        refine V.goto (pc := 63) C (tgt := 67) dX5_sizes_63 (by decide) ?_
        refine V.sub [0, 1, 2, 4] rfl ?_
        exact tb_X5_sizes_67 C T hK27 _ _ _ _ _ hs
theorem tl_X5_sizes_27 {k : KX} (C : Cx k cX5_sizes RX5 5 rmX5_sizes) {r : Int32} {hf : Hp} (T : Rx k (some .int) (some (.int r)) hf) {K9 : Int32 → Int32 → Hp → Option (Int32 × Hp)} (hK9 : ∀ (x1 : Int32) (x2 : Int32) (h : Hp), K9 x1 x2 h = some (r, hf) → V k rmX5_sizes 5 9 [(0, .ref 20), (1, .int x1), (2, .int x2)] [] h) : ∀ (n : Nat) (x1 : Int32) (x2 : Int32) (x3 : Int32) (x4 : Int32) (h : Hp), X5_sizes_l27 K9 n x1 x2 x3 x4 h = some (r, hf) → V k rmX5_sizes 5 27 [(0, .ref 20), (1, .int x1), (2, .int x2), (3, .int x3), (4, .int x4)] [] h := by
  intro n
  induction n with
  | zero => intro x1 x2 x3 x4 h hs; cases hs
  | succ n ih => intro x1 x2 x3 x4 h hs; exact tb_X5_sizes_27 C T hK9 ih x1 x2 x3 x4 h hs
set_option maxRecDepth 20000 in
theorem tb_X5_sizes_9 {k : KX} (C : Cx k cX5_sizes RX5 5 rmX5_sizes) {r : Int32} {hf : Hp} (T : Rx k (some .int) (some (.int r)) hf) {K9 : Int32 → Int32 → Hp → Option (Int32 × Hp)} (hK9 : ∀ (x1 : Int32) (x2 : Int32) (h : Hp), K9 x1 x2 h = some (r, hf) → V k rmX5_sizes 5 9 [(0, .ref 20), (1, .int x1), (2, .int x2)] [] h) (x1 : Int32) (x2 : Int32) (h : Hp) (hs : X5_sizes_b9 K9 x1 x2 h = some (r, hf)) : V k rmX5_sizes 5 9 [(0, .ref 20), (1, .int x1), (2, .int x2)] [] h := by
  unfold X5_sizes_b9 at hs
  refine V.iload_n (pc := 9) C dX5_sizes_9 2 rfl ?_
  refine V.iconst (pc := 10) C (v := (5 : Int32)) dX5_sizes_10 (by decide) ?_
  refine V.icmp_gt (pc := 11) C (tgt := 94) dX5_sizes_11 (by decide) (fun c1 => ?_) (fun c1 => ?_)
  · have hs := o_if c1 hs
    refine V.iload_n (pc := 94) C dX5_sizes_94 1 rfl ?_
    exact V.iret (pc := 95) C T hs dX5_sizes_95
  · have hs := o_el c1 hs
    refine V.aload_n (pc := 14) C dX5_sizes_14 0 rfl ?_
    refine V.iload_n (pc := 15) C dX5_sizes_15 2 rfl ?_
    refine V.aload_n (pc := 16) C dX5_sizes_16 0 rfl ?_
    obtain ⟨v3, h2, ch2, hs⟩ := o_b2 hs
    refine V.callV (pc := 17) C (o := 20) (rm := rmX5_all) (y := yX5_all) (bytes := cX5_all) (maxL := 1) (ret := (some .int)) (n := 0) (As := []) (rest := [.int x2, .ref 20]) (rv := (some (.int v3))) (h1 := h2) (st0 := [.ref 20, .int x2, .ref 20]) (st2 := [.int v3, .int x2, .ref 20]) (by decide) rfl rfl (ct_X5_all (kL k) ch2) wf_819 wf_821 wf_39 wf_54 wf_822 rfl rfl (by decide +kernel) ⟨by decide, by decide⟩ rfl (Nat.le_of_ble_eq_true rfl) dX5_sizes_17 rfl rfl ?_
    obtain ⟨v5, h4, ch4, hs⟩ := o_b2 hs
    refine V.callV (pc := 20) C (o := 20) (rm := rmX5_goesOn) (y := yX5_goesOn) (bytes := cX5_goesOn) (maxL := 3) (ret := (some .boolean)) (n := 2) (As := [.int x2, .int v3]) (rest := []) (rv := (some (.int v5))) (h1 := h4) (st0 := [.int v3, .int x2, .ref 20]) (st2 := [.int v5]) (by decide) rfl rfl (ct_X5_goesOn (kL k) ch4) wf_839 wf_841 wf_43 wf_54 wf_842 rfl rfl (by decide +kernel) ⟨by decide, by decide⟩ rfl (Nat.le_of_ble_eq_true rfl) dX5_sizes_20 rfl rfl ?_
    refine V.istore_n (pc := 23) C (i := 3) (lv2 := [(3, .int v5), (0, .ref 20), (1, .int x1), (2, .int x2)]) dX5_sizes_23 rfl (by decide) rfl ?_
    refine V.iconst (pc := 24) C (v := (0 : Int32)) dX5_sizes_24 (by decide) ?_
    refine V.istore (pc := 25) C (i := 4) (lv2 := [(4, .int (0 : Int32)), (3, .int v5), (0, .ref 20), (1, .int x1), (2, .int x2)]) dX5_sizes_25 (by decide) rfl ?_
    refine V.sub [2, 3, 4, 1, 0] rfl ?_
    exact tl_X5_sizes_27 C T hK9 fu _ _ _ _ _ hs
theorem tl_X5_sizes_9 {k : KX} (C : Cx k cX5_sizes RX5 5 rmX5_sizes) {r : Int32} {hf : Hp} (T : Rx k (some .int) (some (.int r)) hf) : ∀ (n : Nat) (x1 : Int32) (x2 : Int32) (h : Hp), X5_sizes_l9 n x1 x2 h = some (r, hf) → V k rmX5_sizes 5 9 [(0, .ref 20), (1, .int x1), (2, .int x2)] [] h := by
  intro n
  induction n with
  | zero => intro x1 x2 h hs; cases hs
  | succ n ih => intro x1 x2 h hs; exact tb_X5_sizes_9 C T ih x1 x2 h hs
set_option maxRecDepth 20000 in
theorem ct_X5_sizes (l : Launch) {h hf : Hp} {r : Int32} (hs : X5_sizes h = some (r, hf)) : Ct l yX5_sizes (Cond.code yX5_sizes cX5_sizes 5 (some .int) :: wsG) rmX5_sizes [.ref 20] h (some (.int r)) hf := by
  refine Ct.of (by decide +kernel) (fun _ => Nat.le_of_ble_eq_true rfl) (fun k C T => ?_)
  unfold X5_sizes at hs
  show V k rmX5_sizes 5 0 [(0, .ref 20)] [] h
  refine V.iconst (pc := 0) C (v := (0 : Int32)) dX5_sizes_0 (by decide) ?_
  refine V.istore_n (pc := 1) C (i := 1) (lv2 := [(1, .int (0 : Int32)), (0, .ref 20)]) dX5_sizes_1 rfl (by decide) rfl ?_
  refine V.aload_n (pc := 2) C dX5_sizes_2 1 rfl ?_
  refine V.getf (pc := 3) C (o := 20) (j := 7) (v := .ref 26) (by decide) rfl rfl inX5 (by decide) (by decide) wf_612 rfl dX5_sizes_3 ?_
  refine V.iconst (pc := 6) C (v := (0 : Int32)) dX5_sizes_6 (by decide) ?_
  refine V.iald (pc := 7) C (o := 26) (v := (h.1 26 0)) (by decide) rfl rfl (by decide) rfl dX5_sizes_7 ?_
  refine V.istore_n (pc := 8) C (i := 2) (lv2 := [(2, .int (h.1 26 0)), (1, .int (0 : Int32)), (0, .ref 20)]) dX5_sizes_8 rfl (by decide) rfl ?_
  refine V.sub [2, 1, 0] rfl ?_
  exact tl_X5_sizes_9 C T fu _ _ _ hs
abbrev rmX5_two : Room := { frames := 2, cells := 0, slots := 0, locals := 46 }
set_option maxRecDepth 20000 in
theorem tb_X5_two_54 {k : KX} (C : Cx k cX5_two RX5 5 rmX5_two) {r : Int32} {hf : Hp} (T : Rx k (some .int) (some (.int r)) hf) {K27 : Int32 → Int32 → Int32 → Hp → Option (Int32 × Hp)} (hK27 : ∀ (x2 : Int32) (x3 : Int32) (x4 : Int32) (h : Hp), K27 x2 x3 x4 h = some (r, hf) → V k rmX5_two 5 27 [(0, .ref 20), (2, .int x2), (3, .int x3), (4, .int x4)] [] h) (x2 : Int32) (x4 : Int32) (s0 : Int32) (s1 : Int32) (h : Hp) (hs : X5_two_b54 K27 x2 x4 s0 s1 h = some (r, hf)) : V k rmX5_two 5 54 [(0, .ref 20), (2, .int x2), (4, .int x4)] [.int s1, .int s0] h := by
  unfold X5_two_b54 at hs
  refine V.iadd (pc := 54) C dX5_two_54 ?_
  refine V.istore_n (pc := 55) C (i := 3) (lv2 := [(3, .int (s0 + s1)), (0, .ref 20), (2, .int x2), (4, .int x4)]) dX5_two_55 rfl (by decide) rfl ?_
  refine V.iinc (pc := 56) C (j := 3) (v := (x4 + (1 : Int32))) (lv2 := [(4, .int (x4 + (1 : Int32))), (3, .int (s0 + s1)), (0, .ref 20), (2, .int x2)]) dX5_two_56 rfl rfl (by decide) rfl ?_
  refine V.goto (pc := 59) C (tgt := 27) dX5_two_59 (by decide) ?_
  refine V.sub [2, 3, 1, 0] rfl ?_
  exact hK27 _ _ _ _ hs
set_option maxRecDepth 20000 in
theorem tb_X5_two_27 {k : KX} (C : Cx k cX5_two RX5 5 rmX5_two) {r : Int32} {hf : Hp} (T : Rx k (some .int) (some (.int r)) hf) {K27 : Int32 → Int32 → Int32 → Hp → Option (Int32 × Hp)} (hK27 : ∀ (x2 : Int32) (x3 : Int32) (x4 : Int32) (h : Hp), K27 x2 x3 x4 h = some (r, hf) → V k rmX5_two 5 27 [(0, .ref 20), (2, .int x2), (3, .int x3), (4, .int x4)] [] h) (x2 : Int32) (x3 : Int32) (x4 : Int32) (h : Hp) (hs : X5_two_b27 K27 x2 x3 x4 h = some (r, hf)) : V k rmX5_two 5 27 [(0, .ref 20), (2, .int x2), (3, .int x3), (4, .int x4)] [] h := by
  unfold X5_two_b27 at hs
  refine V.iload (pc := 27) C dX5_two_27 3 rfl ?_
  refine V.aload_n (pc := 29) C dX5_two_29 0 rfl ?_
  refine V.getf (pc := 30) C (o := 20) (j := 5) (v := .ref 24) (by decide) rfl rfl inX5 (by decide) (by decide) wf_610 rfl dX5_two_30 ?_
  refine V.iconst (pc := 33) C (v := (0 : Int32)) dX5_two_33 (by decide) ?_
  refine V.iald (pc := 34) C (o := 24) (v := (h.1 24 0)) (by decide) rfl rfl (by decide) rfl dX5_two_34 ?_
  refine V.icmp_ge (pc := 35) C (tgt := 62) dX5_two_35 (by decide) (fun c4 => ?_) (fun c4 => ?_)
  · have hs := o_if c4 hs
    refine V.iload_n (pc := 62) C dX5_two_62 2 rfl ?_
    exact V.iret (pc := 63) C T hs dX5_two_63
  · have hs := o_el c4 hs
    refine V.iload_n (pc := 38) C dX5_two_38 2 rfl ?_
    refine V.aload_n (pc := 39) C dX5_two_39 0 rfl ?_
    refine V.iload (pc := 40) C dX5_two_40 3 rfl ?_
    refine V.iload_n (pc := 42) C dX5_two_42 1 rfl ?_
    obtain ⟨v6, h5, ch5, hs⟩ := o_b2 hs
    refine V.callV (pc := 43) C (o := 20) (rm := rmX5_isClear) (y := yX5_isClear) (bytes := cX5_isClear) (maxL := 5) (ret := (some .boolean)) (n := 2) (As := [.int x4, .int x2]) (rest := [.int x3]) (rv := (some (.int v6))) (h1 := h5) (st0 := [.int x2, .int x4, .ref 20, .int x3]) (st2 := [.int v6, .int x3]) (by decide) rfl rfl (ct_X5_isClear (kL k) ch5) wf_803 wf_805 wf_36 wf_54 wf_806 rfl rfl (by decide +kernel) ⟨by decide, by decide⟩ rfl (Nat.le_of_ble_eq_true rfl) dX5_two_43 rfl rfl ?_
    refine V.if_eq (pc := 46) C (tgt := 53) dX5_two_46 (by decide) (fun c7 => ?_) (fun c7 => ?_)
    · have hs := o_if c7 hs
      refine V.iconst (pc := 53) C (v := (1 : Int32)) dX5_two_53 (by decide) ?_
      refine V.sub [0, 1, 3] rfl ?_
      exact tb_X5_two_54 C T hK27 _ _ _ _ _ hs
    · have hs := o_el c7 hs
      refine V.iconst (pc := 49) C (v := (0 : Int32)) dX5_two_49 (by decide) ?_
      refine V.goto (pc := 50) C (tgt := 54) dX5_two_50 (by decide) ?_
      refine V.sub [0, 1, 3] rfl ?_
      exact tb_X5_two_54 C T hK27 _ _ _ _ _ hs
theorem tl_X5_two_27 {k : KX} (C : Cx k cX5_two RX5 5 rmX5_two) {r : Int32} {hf : Hp} (T : Rx k (some .int) (some (.int r)) hf) : ∀ (n : Nat) (x2 : Int32) (x3 : Int32) (x4 : Int32) (h : Hp), X5_two_l27 n x2 x3 x4 h = some (r, hf) → V k rmX5_two 5 27 [(0, .ref 20), (2, .int x2), (3, .int x3), (4, .int x4)] [] h := by
  intro n
  induction n with
  | zero => intro x2 x3 x4 h hs; cases hs
  | succ n ih => intro x2 x3 x4 h hs; exact tb_X5_two_27 C T ih x2 x3 x4 h hs
set_option maxRecDepth 20000 in
theorem ct_X5_two (l : Launch) {x1 : Int32} {h hf : Hp} {r : Int32} (hs : X5_two x1 h = some (r, hf)) : Ct l yX5_two (Cond.code yX5_two cX5_two 5 (some .int) :: wsG) rmX5_two [.ref 20, .int x1] h (some (.int r)) hf := by
  refine Ct.of (by decide +kernel) (fun _ => Nat.le_of_ble_eq_true rfl) (fun k C T => ?_)
  unfold X5_two at hs
  show V k rmX5_two 5 0 [(0, .ref 20), (1, .int x1)] [] h
  refine V.iload_n (pc := 0) C dX5_two_0 1 rfl ?_
  refine V.iconst (pc := 1) C (v := (0 : Int32)) dX5_two_1 (by decide) ?_
  refine V.aload_n (pc := 2) C dX5_two_2 0 rfl ?_
  refine V.getf (pc := 3) C (o := 20) (j := 5) (v := .ref 24) (by decide) rfl rfl inX5 (by decide) (by decide) wf_610 rfl dX5_two_3 ?_
  refine V.iconst (pc := 6) C (v := (0 : Int32)) dX5_two_6 (by decide) ?_
  refine V.iald (pc := 7) C (o := 24) (v := (h.1 24 0)) (by decide) rfl rfl (by decide) rfl dX5_two_7 ?_
  obtain ⟨v2, h1, ch1, hs⟩ := o_b2 hs
  refine V.callS (pc := 8) C (rm := rmX5_in) (y := yX5_in) (bytes := cX5_in) (maxL := 3) (ret := (some .boolean)) (n := 3) (As := [.int x1, .int (0 : Int32), .int (h.1 24 0)]) (rest := []) (rv := (some (.int v2))) (h1 := h1) (st0 := [.int (h.1 24 0), .int (0 : Int32), .int x1]) (st2 := [.int v2]) (ct_X5_in (kL k) ch1) wf_693 wf_694 wf_54 wf_695 rfl rfl (by decide +kernel) ⟨by decide, by decide⟩ rfl (Nat.le_of_ble_eq_true rfl) dX5_two_8 rfl rfl ?_
  refine V.if_ne (pc := 11) C (tgt := 16) dX5_two_11 (by decide) (fun c3 => ?_) (fun c3 => ?_)
  · have hs := o_el c3 hs
    refine V.iconst (pc := 16) C (v := (1 : Int32)) dX5_two_16 (by decide) ?_
    refine V.iload_n (pc := 17) C dX5_two_17 1 rfl ?_
    refine V.ishl (pc := 18) C dX5_two_18 ?_
    refine V.iconst (pc := 19) C (v := (1 : Int32)) dX5_two_19 (by decide) ?_
    refine V.isub (pc := 20) C dX5_two_20 ?_
    refine V.istore_n (pc := 21) C (i := 2) (lv2 := [(2, .int (((1 : Int32) <<< (x1 &&& 31)) - (1 : Int32))), (0, .ref 20), (1, .int x1)]) dX5_two_21 rfl (by decide) rfl ?_
    refine V.iconst (pc := 22) C (v := (0 : Int32)) dX5_two_22 (by decide) ?_
    refine V.istore_n (pc := 23) C (i := 3) (lv2 := [(3, .int (0 : Int32)), (2, .int (((1 : Int32) <<< (x1 &&& 31)) - (1 : Int32))), (0, .ref 20), (1, .int x1)]) dX5_two_23 rfl (by decide) rfl ?_
    refine V.iload_n (pc := 24) C dX5_two_24 3 rfl ?_
    refine V.istore (pc := 25) C (i := 4) (lv2 := [(4, .int x1), (3, .int (0 : Int32)), (2, .int (((1 : Int32) <<< (x1 &&& 31)) - (1 : Int32))), (0, .ref 20), (1, .int x1)]) dX5_two_25 (by decide) rfl ?_
    refine V.sub [3, 2, 1, 0] rfl ?_
    exact tl_X5_two_27 C T fu _ _ _ _ hs
  · have hs := o_if c3 hs
    refine V.iconst (pc := 14) C (v := (-1 : Int32)) dX5_two_14 (by decide) ?_
    exact V.iret (pc := 15) C T hs dX5_two_15
abbrev rmX5_mark : Room := { frames := 2, cells := 0, slots := 0, locals := 43 }
set_option maxRecDepth 20000 in
theorem ct_X5_mark (l : Launch) {x1 : Int32} {x2 : Int32} {h hf : Hp} {r : Int32} (hs : X5_mark x1 x2 h = some (r, hf)) : Ct l yX5_mark (Cond.code yX5_mark cX5_mark 4 (some .int) :: wsG) rmX5_mark [.ref 20, .int x1, .int x2] h (some (.int r)) hf := by
  refine Ct.of (by decide +kernel) (fun _ => Nat.le_of_ble_eq_true rfl) (fun k C T => ?_)
  unfold X5_mark at hs
  show V k rmX5_mark 4 0 [(0, .ref 20), (1, .int x1), (2, .int x2)] [] h
  refine V.iload_n (pc := 0) C dX5_mark_0 1 rfl ?_
  refine V.iconst (pc := 1) C (v := (0 : Int32)) dX5_mark_1 (by decide) ?_
  refine V.iconst (pc := 2) C (v := (5 : Int32)) dX5_mark_2 (by decide) ?_
  obtain ⟨v2, h1, ch1, hs⟩ := o_b2 hs
  refine V.callS (pc := 3) C (rm := rmX5_in) (y := yX5_in) (bytes := cX5_in) (maxL := 3) (ret := (some .boolean)) (n := 3) (As := [.int x1, .int (0 : Int32), .int (5 : Int32)]) (rest := []) (rv := (some (.int v2))) (h1 := h1) (st0 := [.int (5 : Int32), .int (0 : Int32), .int x1]) (st2 := [.int v2]) (ct_X5_in (kL k) ch1) wf_693 wf_694 wf_54 wf_695 rfl rfl (by decide +kernel) ⟨by decide, by decide⟩ rfl (Nat.le_of_ble_eq_true rfl) dX5_mark_3 rfl rfl ?_
  refine V.if_eq (pc := 6) C (tgt := 17) dX5_mark_6 (by decide) (fun c3 => ?_) (fun c3 => ?_)
  · have hs := o_if c3 hs
    refine V.ldc (pc := 17) C wf_897 dX5_mark_17 ?_
    exact V.iret (pc := 19) C T hs dX5_mark_19
  · have hs := o_el c3 hs
    refine V.aload_n (pc := 9) C dX5_mark_9 0 rfl ?_
    refine V.iload_n (pc := 10) C dX5_mark_10 2 rfl ?_
    obtain ⟨v5, h4, ch4, hs⟩ := o_b2 hs
    refine V.callV (pc := 11) C (o := 20) (rm := rmX5_isPiece) (y := yX5_isPiece) (bytes := cX5_isPiece) (maxL := 2) (ret := (some .boolean)) (n := 1) (As := [.int x2]) (rest := []) (rv := (some (.int v5))) (h1 := h4) (st0 := [.int x2, .ref 20]) (st2 := [.int v5]) (by decide) rfl rfl (ct_X5_isPiece (kL k) ch4) wf_740 wf_742 wf_29 wf_54 wf_743 rfl rfl (by decide +kernel) ⟨by decide, by decide⟩ rfl (Nat.le_of_ble_eq_true rfl) dX5_mark_11 rfl rfl ?_
    refine V.if_ne (pc := 14) C (tgt := 20) dX5_mark_14 (by decide) (fun c6 => ?_) (fun c6 => ?_)
    · have hs := o_el c6 hs
      refine V.aload_n (pc := 20) C dX5_mark_20 0 rfl ?_
      refine V.iload_n (pc := 21) C dX5_mark_21 2 rfl ?_
      refine V.iconst (pc := 22) C (v := (0 : Int32)) dX5_mark_22 (by decide) ?_
      obtain ⟨v8, h7, ch7, hs⟩ := o_b2 hs
      refine V.callV (pc := 23) C (o := 20) (rm := rmX5_of) (y := yX5_of) (bytes := cX5_of) (maxL := 3) (ret := (some .int)) (n := 2) (As := [.int x2, .int (0 : Int32)]) (rest := []) (rv := (some (.int v8))) (h1 := h7) (st0 := [.int (0 : Int32), .int x2, .ref 20]) (st2 := [.int v8]) (by decide) rfl rfl (ct_X5_of (kL k) ch7) wf_744 wf_746 wf_30 wf_54 wf_747 rfl rfl (by decide +kernel) ⟨by decide, by decide⟩ rfl (Nat.le_of_ble_eq_true rfl) dX5_mark_23 rfl rfl ?_
      refine V.istore_n (pc := 26) C (i := 3) (lv2 := [(3, .int v8), (0, .ref 20), (1, .int x1), (2, .int x2)]) dX5_mark_26 rfl (by decide) rfl ?_
      refine V.iload_n (pc := 27) C dX5_mark_27 2 rfl ?_
      by_cases c17_0 : x1 = (0 : Int32)
      · have hs := o_if c17_0 hs
        refine V.tin (pc := 28) C (tgt := 64) (off := 36) dX5_mark_28 c17_0 (by decide) (by decide) (by decide) (by decide) ?_
        refine V.aload_n (pc := 64) C dX5_mark_64 1 rfl ?_
        refine V.dup (pc := 65) C dX5_mark_65 rfl ?_
        refine V.getf (pc := 66) C (o := 20) (j := 0) (v := .long (h7.2 20 0)) (by decide) rfl rfl inX5 (by decide) (by decide) wf_605 rfl dX5_mark_66 ?_
        refine V.lconst (pc := 69) C (v := (1 : Int64)) dX5_mark_69 (by decide) ?_
        refine V.ladd (pc := 70) C dX5_mark_70 ?_
        refine V.putL (pc := 71) C (o := 20) (j := 0) (v := ((h7.2 20 0) + (1 : Int64))) (by decide) rfl rfl inX5 (by decide) (by decide) wf_605 tyX5 tyX5_ok nmX5 rfl rfl rfl rfl dX5_mark_71 ?_
        refine V.iload_n (pc := 74) C dX5_mark_74 0 rfl ?_
        exact V.iret (pc := 75) C T hs dX5_mark_75
      have hs := o_el c17_0 hs
      by_cases c17_1 : x1 = (1 : Int32)
      · have hs := o_if c17_1 hs
        refine V.tin (pc := 28) C (tgt := 76) (off := 48) dX5_mark_28 c17_1 (by decide) (by decide) (by decide) (by decide) ?_
        refine V.aload_n (pc := 76) C dX5_mark_76 1 rfl ?_
        refine V.dup (pc := 77) C dX5_mark_77 rfl ?_
        refine V.getf (pc := 78) C (o := 20) (j := 0) (v := .long (h7.2 20 0)) (by decide) rfl rfl inX5 (by decide) (by decide) wf_605 rfl dX5_mark_78 ?_
        refine V.ldc2 (pc := 81) C wf_898 dX5_mark_81 ?_
        refine V.ladd (pc := 84) C dX5_mark_84 ?_
        refine V.putL (pc := 85) C (o := 20) (j := 0) (v := ((h7.2 20 0) + (11 : Int64))) (by decide) rfl rfl inX5 (by decide) (by decide) wf_605 tyX5 tyX5_ok nmX5 rfl rfl rfl rfl dX5_mark_85 ?_
        refine V.iload_n (pc := 88) C dX5_mark_88 0 rfl ?_
        refine V.aload_n (pc := 89) C dX5_mark_89 1 rfl ?_
        refine V.iload_n (pc := 90) C dX5_mark_90 3 rfl ?_
        refine V.iconst (pc := 91) C (v := (1 : Int32)) dX5_mark_91 (by decide) ?_
        obtain ⟨v10, h9, ch9, hs⟩ := o_b2 hs
        refine V.callV (pc := 92) C (o := 20) (rm := rmX5_of) (y := yX5_of) (bytes := cX5_of) (maxL := 3) (ret := (some .int)) (n := 2) (As := [.int x2, .int (1 : Int32)]) (rest := [.int v8]) (rv := (some (.int v10))) (h1 := h9) (st0 := [.int (1 : Int32), .int x2, .ref 20, .int v8]) (st2 := [.int v10, .int v8]) (by decide) rfl rfl (ct_X5_of (kL k) ch9) wf_744 wf_746 wf_30 wf_54 wf_747 rfl rfl (by decide +kernel) ⟨by decide, by decide⟩ rfl (Nat.le_of_ble_eq_true rfl) dX5_mark_92 rfl rfl ?_
        refine V.iadd (pc := 95) C dX5_mark_95 ?_
        exact V.iret (pc := 96) C T hs dX5_mark_96
      have hs := o_el c17_1 hs
      by_cases c17_2 : x1 = (2 : Int32)
      · have hs := o_if c17_2 hs
        refine V.tin (pc := 28) C (tgt := 97) (off := 69) dX5_mark_28 c17_2 (by decide) (by decide) (by decide) (by decide) ?_
        refine V.aload_n (pc := 97) C dX5_mark_97 1 rfl ?_
        refine V.dup (pc := 98) C dX5_mark_98 rfl ?_
        refine V.getf (pc := 99) C (o := 20) (j := 0) (v := .long (h7.2 20 0)) (by decide) rfl rfl inX5 (by decide) (by decide) wf_605 rfl dX5_mark_99 ?_
        refine V.ldc2 (pc := 102) C wf_899 dX5_mark_102 ?_
        refine V.ladd (pc := 105) C dX5_mark_105 ?_
        refine V.putL (pc := 106) C (o := 20) (j := 0) (v := ((h7.2 20 0) + (101 : Int64))) (by decide) rfl rfl inX5 (by decide) (by decide) wf_605 tyX5 tyX5_ok nmX5 rfl rfl rfl rfl dX5_mark_106 ?_
        refine V.iload_n (pc := 109) C dX5_mark_109 0 rfl ?_
        refine V.aload_n (pc := 110) C dX5_mark_110 1 rfl ?_
        refine V.iload_n (pc := 111) C dX5_mark_111 3 rfl ?_
        refine V.iconst (pc := 112) C (v := (4 : Int32)) dX5_mark_112 (by decide) ?_
        obtain ⟨v12, h11, ch11, hs⟩ := o_b2 hs
        refine V.callV (pc := 113) C (o := 20) (rm := rmX5_of) (y := yX5_of) (bytes := cX5_of) (maxL := 3) (ret := (some .int)) (n := 2) (As := [.int x2, .int (4 : Int32)]) (rest := [.int v8]) (rv := (some (.int v12))) (h1 := h11) (st0 := [.int (4 : Int32), .int x2, .ref 20, .int v8]) (st2 := [.int v12, .int v8]) (by decide) rfl rfl (ct_X5_of (kL k) ch11) wf_744 wf_746 wf_30 wf_54 wf_747 rfl rfl (by decide +kernel) ⟨by decide, by decide⟩ rfl (Nat.le_of_ble_eq_true rfl) dX5_mark_113 rfl rfl ?_
        refine V.isub (pc := 116) C dX5_mark_116 ?_
        exact V.iret (pc := 117) C T hs dX5_mark_117
      have hs := o_el c17_2 hs
      by_cases c17_3 : x1 = (3 : Int32)
      · have hs := o_if c17_3 hs
        refine V.tin (pc := 28) C (tgt := 118) (off := 90) dX5_mark_28 c17_3 (by decide) (by decide) (by decide) (by decide) ?_
        refine V.aload_n (pc := 118) C dX5_mark_118 1 rfl ?_
        refine V.dup (pc := 119) C dX5_mark_119 rfl ?_
        refine V.getf (pc := 120) C (o := 20) (j := 0) (v := .long (h7.2 20 0)) (by decide) rfl rfl inX5 (by decide) (by decide) wf_605 rfl dX5_mark_120 ?_
        refine V.ldc2 (pc := 123) C wf_900 dX5_mark_123 ?_
        refine V.ladd (pc := 126) C dX5_mark_126 ?_
        refine V.putL (pc := 127) C (o := 20) (j := 0) (v := ((h7.2 20 0) + (1011 : Int64))) (by decide) rfl rfl inX5 (by decide) (by decide) wf_605 tyX5 tyX5_ok nmX5 rfl rfl rfl rfl dX5_mark_127 ?_
        refine V.iconst (pc := 130) C (v := (2 : Int32)) dX5_mark_130 (by decide) ?_
        refine V.iload_n (pc := 131) C dX5_mark_131 0 rfl ?_
        refine V.aload_n (pc := 132) C dX5_mark_132 1 rfl ?_
        refine V.iload_n (pc := 133) C dX5_mark_133 3 rfl ?_
        refine V.iconst (pc := 134) C (v := (1 : Int32)) dX5_mark_134 (by decide) ?_
        obtain ⟨v14, h13, ch13, hs⟩ := o_b2 hs
        refine V.callV (pc := 135) C (o := 20) (rm := rmX5_of) (y := yX5_of) (bytes := cX5_of) (maxL := 3) (ret := (some .int)) (n := 2) (As := [.int x2, .int (1 : Int32)]) (rest := [.int v8, .int (2 : Int32)]) (rv := (some (.int v14))) (h1 := h13) (st0 := [.int (1 : Int32), .int x2, .ref 20, .int v8, .int (2 : Int32)]) (st2 := [.int v14, .int v8, .int (2 : Int32)]) (by decide) rfl rfl (ct_X5_of (kL k) ch13) wf_744 wf_746 wf_30 wf_54 wf_747 rfl rfl (by decide +kernel) ⟨by decide, by decide⟩ rfl (Nat.le_of_ble_eq_true rfl) dX5_mark_135 rfl rfl ?_
        refine V.iadd (pc := 138) C dX5_mark_138 ?_
        refine V.imul (pc := 139) C dX5_mark_139 ?_
        exact V.iret (pc := 140) C T hs dX5_mark_140
      have hs := o_el c17_3 hs
      by_cases c17_4 : x1 = (4 : Int32)
      · have hs := o_if c17_4 hs
        refine V.tin (pc := 28) C (tgt := 141) (off := 113) dX5_mark_28 c17_4 (by decide) (by decide) (by decide) (by decide) ?_
        refine V.aload_n (pc := 141) C dX5_mark_141 1 rfl ?_
        refine V.dup (pc := 142) C dX5_mark_142 rfl ?_
        refine V.getf (pc := 143) C (o := 20) (j := 0) (v := .long (h7.2 20 0)) (by decide) rfl rfl inX5 (by decide) (by decide) wf_605 rfl dX5_mark_143 ?_
        refine V.ldc2 (pc := 146) C wf_901 dX5_mark_146 ?_
        refine V.ladd (pc := 149) C dX5_mark_149 ?_
        refine V.putL (pc := 150) C (o := 20) (j := 0) (v := ((h7.2 20 0) + (10101 : Int64))) (by decide) rfl rfl inX5 (by decide) (by decide) wf_605 tyX5 tyX5_ok nmX5 rfl rfl rfl rfl dX5_mark_150 ?_
        refine V.iload_n (pc := 153) C dX5_mark_153 0 rfl ?_
        refine V.aload_n (pc := 154) C dX5_mark_154 1 rfl ?_
        refine V.iload_n (pc := 155) C dX5_mark_155 3 rfl ?_
        refine V.iconst (pc := 156) C (v := (4 : Int32)) dX5_mark_156 (by decide) ?_
        obtain ⟨v16, h15, ch15, hs⟩ := o_b2 hs
        refine V.callV (pc := 157) C (o := 20) (rm := rmX5_of) (y := yX5_of) (bytes := cX5_of) (maxL := 3) (ret := (some .int)) (n := 2) (As := [.int x2, .int (4 : Int32)]) (rest := [.int v8]) (rv := (some (.int v16))) (h1 := h15) (st0 := [.int (4 : Int32), .int x2, .ref 20, .int v8]) (st2 := [.int v16, .int v8]) (by decide) rfl rfl (ct_X5_of (kL k) ch15) wf_744 wf_746 wf_30 wf_54 wf_747 rfl rfl (by decide +kernel) ⟨by decide, by decide⟩ rfl (Nat.le_of_ble_eq_true rfl) dX5_mark_157 rfl rfl ?_
        refine V.isub (pc := 160) C dX5_mark_160 ?_
        refine V.aload_n (pc := 161) C dX5_mark_161 1 rfl ?_
        refine V.getf (pc := 162) C (o := 20) (j := 14) (v := .ref 27) (by decide) rfl rfl inX5 (by decide) (by decide) wf_619 rfl dX5_mark_162 ?_
        refine V.iconst (pc := 165) C (v := (1 : Int32)) dX5_mark_165 (by decide) ?_
        refine V.iald (pc := 166) C (o := 27) (v := (h15.1 27 1)) (by decide) rfl rfl (by decide) rfl dX5_mark_166 ?_
        refine V.iadd (pc := 167) C dX5_mark_167 ?_
        exact V.iret (pc := 168) C T hs dX5_mark_168
      have hs := o_el c17_4 hs
      have ic17_0 : (x1).toInt ≠ 0 := fun z => c17_0 (Int32.toInt_inj.mp z)
      have ic17_1 : (x1).toInt ≠ 1 := fun z => c17_1 (Int32.toInt_inj.mp z)
      have ic17_2 : (x1).toInt ≠ 2 := fun z => c17_2 (Int32.toInt_inj.mp z)
      have ic17_3 : (x1).toInt ≠ 3 := fun z => c17_3 (Int32.toInt_inj.mp z)
      have ic17_4 : (x1).toInt ≠ 4 := fun z => c17_4 (Int32.toInt_inj.mp z)
      refine V.tout (pc := 28) C (tgt := 169) dX5_mark_28 (by omega) (by decide) ?_
      refine V.aload_n (pc := 169) C dX5_mark_169 1 rfl ?_
      refine V.dup (pc := 170) C dX5_mark_170 rfl ?_
      refine V.getf (pc := 171) C (o := 20) (j := 0) (v := .long (h7.2 20 0)) (by decide) rfl rfl inX5 (by decide) (by decide) wf_605 rfl dX5_mark_171 ?_
      refine V.ldc2 (pc := 174) C wf_902 dX5_mark_174 ?_
      refine V.ladd (pc := 177) C dX5_mark_177 ?_
      refine V.putL (pc := 178) C (o := 20) (j := 0) (v := ((h7.2 20 0) + (100001 : Int64))) (by decide) rfl rfl inX5 (by decide) (by decide) wf_605 tyX5 tyX5_ok nmX5 rfl rfl rfl rfl dX5_mark_178 ?_
      refine V.iload_n (pc := 181) C dX5_mark_181 0 rfl ?_
      refine V.aload_n (pc := 182) C dX5_mark_182 1 rfl ?_
      refine V.getf (pc := 183) C (o := 20) (j := 14) (v := .ref 27) (by decide) rfl rfl inX5 (by decide) (by decide) wf_619 rfl dX5_mark_183 ?_
      refine V.iconst (pc := 186) C (v := (3 : Int32)) dX5_mark_186 (by decide) ?_
      refine V.iald (pc := 187) C (o := 27) (v := (h7.1 27 3)) (by decide) rfl rfl (by decide) rfl dX5_mark_187 ?_
      refine V.iadd (pc := 188) C dX5_mark_188 ?_
      exact V.iret (pc := 189) C T hs dX5_mark_189
    · have hs := o_if c6 hs
      refine V.ldc (pc := 17) C wf_897 dX5_mark_17 ?_
      exact V.iret (pc := 19) C T hs dX5_mark_19
abbrev rmX5_copy : Room := { frames := 0, cells := 0, slots := 0, locals := 0 }
set_option maxRecDepth 20000 in
theorem tb_X5_copy_2 {k : KX} (C : Cx k cX5_copy RX5 4 rmX5_copy) {hf : Hp} (T : Rx k none none hf) {K2 : Int32 → Int32 → Int32 → Hp → Option (Hp)} (hK2 : ∀ (x1 : Int32) (x2 : Int32) (x3 : Int32) (h : Hp), K2 x1 x2 x3 h = some hf → V k rmX5_copy 4 2 [(0, .ref 20), (1, .int x1), (2, .int x2), (3, .int x3)] [] h) (x1 : Int32) (x2 : Int32) (x3 : Int32) (h : Hp) (hs : X5_copy_b2 K2 x1 x2 x3 h = some hf) : V k rmX5_copy 4 2 [(0, .ref 20), (1, .int x1), (2, .int x2), (3, .int x3)] [] h := by
  unfold X5_copy_b2 at hs
  refine V.iload_n (pc := 2) C dX5_copy_2 3 rfl ?_
  refine V.bipush (pc := 3) C (v := (66 : Int32)) dX5_copy_3 (by decide) ?_
  refine V.icmp_ge (pc := 5) C (tgt := 30) dX5_copy_5 (by decide) (fun c1 => ?_) (fun c1 => ?_)
  · have hs := o_if c1 hs
    exact V.vret (pc := 30) C T hs dX5_copy_30
  · have hs := o_el c1 hs
    refine V.aload_n (pc := 8) C dX5_copy_8 0 rfl ?_
    refine V.getf (pc := 9) C (o := 20) (j := 14) (v := .ref 27) (by decide) rfl rfl inX5 (by decide) (by decide) wf_619 rfl dX5_copy_9 ?_
    refine V.iload_n (pc := 12) C dX5_copy_12 2 rfl ?_
    refine V.iload_n (pc := 13) C dX5_copy_13 3 rfl ?_
    refine V.iadd (pc := 14) C dX5_copy_14 ?_
    refine V.aload_n (pc := 15) C dX5_copy_15 0 rfl ?_
    refine V.getf (pc := 16) C (o := 20) (j := 14) (v := .ref 27) (by decide) rfl rfl inX5 (by decide) (by decide) wf_619 rfl dX5_copy_16 ?_
    refine V.iload_n (pc := 19) C dX5_copy_19 1 rfl ?_
    refine V.iload_n (pc := 20) C dX5_copy_20 3 rfl ?_
    refine V.iadd (pc := 21) C dX5_copy_21 ?_
    obtain ⟨v2, ev2, bv2, hs⟩ := o_ld hs
    refine V.iald (pc := 22) C (o := 27) (v := v2) (by decide) rfl rfl bv2 ev2 dX5_copy_22 ?_
    obtain ⟨h3, eh3, bh3, hs⟩ := o_st hs
    refine V.iast (pc := 23) C (o := 27) (h2 := h3) (by decide) rfl rfl bh3 eh3 dX5_copy_23 ?_
    refine V.iinc (pc := 24) C (j := 3) (v := (x3 + (1 : Int32))) (lv2 := [(3, .int (x3 + (1 : Int32))), (0, .ref 20), (1, .int x1), (2, .int x2)]) dX5_copy_24 rfl rfl (by decide) rfl ?_
    refine V.goto (pc := 27) C (tgt := 2) dX5_copy_27 (by decide) ?_
    refine V.sub [1, 2, 3, 0] rfl ?_
    exact hK2 _ _ _ _ hs
theorem tl_X5_copy_2 {k : KX} (C : Cx k cX5_copy RX5 4 rmX5_copy) {hf : Hp} (T : Rx k none none hf) : ∀ (n : Nat) (x1 : Int32) (x2 : Int32) (x3 : Int32) (h : Hp), X5_copy_l2 n x1 x2 x3 h = some hf → V k rmX5_copy 4 2 [(0, .ref 20), (1, .int x1), (2, .int x2), (3, .int x3)] [] h := by
  intro n
  induction n with
  | zero => intro x1 x2 x3 h hs; cases hs
  | succ n ih => intro x1 x2 x3 h hs; exact tb_X5_copy_2 C T ih x1 x2 x3 h hs
set_option maxRecDepth 20000 in
theorem ct_X5_copy (l : Launch) {x1 : Int32} {x2 : Int32} {h hf : Hp} (hs : X5_copy x1 x2 h = some hf) : Ct l yX5_copy (Cond.code yX5_copy cX5_copy 4 none :: wsG) rmX5_copy [.ref 20, .int x1, .int x2] h none hf := by
  refine Ct.of (by decide +kernel) (fun _ => Nat.le_of_ble_eq_true rfl) (fun k C T => ?_)
  unfold X5_copy at hs
  show V k rmX5_copy 4 0 [(0, .ref 20), (1, .int x1), (2, .int x2)] [] h
  refine V.iconst (pc := 0) C (v := (0 : Int32)) dX5_copy_0 (by decide) ?_
  refine V.istore_n (pc := 1) C (i := 3) (lv2 := [(3, .int (0 : Int32)), (0, .ref 20), (1, .int x1), (2, .int x2)]) dX5_copy_1 rfl (by decide) rfl ?_
  refine V.sub [1, 2, 3, 0] rfl ?_
  exact tl_X5_copy_2 C T fu _ _ _ _ hs
