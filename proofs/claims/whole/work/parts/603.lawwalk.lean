set_option maxRecDepth 20000 in
theorem tb_LW_813 {k : KX} {xs : Nat → Int32} {L : Nat} (C : Cx k cL_law RL 4 room_1) {hf : Hp} (T : Lt k) (X : Lx k xs L) {K18 : Int32 → Hp → Option (Int32 × Hp)} (hK18 : ∀ (x3 : Int32) (h : Hp), K18 x3 h = some ((1 : Int32), hf) → V k room_1 4 18 [(0, .ref 34), (1, .ref 0), (2, .ref 20), (3, .int x3)] [] h) (x3 : Int32) (h : Hp) (hs : LW_b813 xs L K18 x3 h = some ((1 : Int32), hf)) : V k room_1 4 813 [(0, .ref 34), (1, .ref 0), (2, .ref 20), (3, .int x3)] [] h := by
  unfold LW_b813 at hs
  refine V.iinc (pc := 813) C (j := 3) (v := (x3 + (4 : Int32))) (lv2 := [(3, .int (x3 + (4 : Int32))), (0, .ref 34), (1, .ref 0), (2, .ref 20)]) dL_law_813 rfl rfl (by decide) rfl ?_
  refine V.goto (pc := 816) C (tgt := 18) dL_law_816 (by decide) ?_
  refine V.sub [1, 2, 3, 0] rfl ?_
  exact hK18 _ _ hs
set_option maxRecDepth 20000 in
theorem tb_LW_18 {k : KX} {xs : Nat → Int32} {L : Nat} (C : Cx k cL_law RL 4 room_1) {hf : Hp} (T : Lt k) (X : Lx k xs L) {K18 : Int32 → Hp → Option (Int32 × Hp)} (hK18 : ∀ (x3 : Int32) (h : Hp), K18 x3 h = some ((1 : Int32), hf) → V k room_1 4 18 [(0, .ref 34), (1, .ref 0), (2, .ref 20), (3, .int x3)] [] h) (x3 : Int32) (h : Hp) (hs : LW_b18 xs L K18 x3 h = some ((1 : Int32), hf)) : V k room_1 4 18 [(0, .ref 34), (1, .ref 0), (2, .ref 20), (3, .int x3)] [] h := by
  unfold LW_b18 at hs
  refine V.iload_n (pc := 18) C dL_law_18 3 rfl ?_
  refine V.aload_n (pc := 19) C dL_law_19 0 rfl ?_
  refine V.slen (pc := 20) C X dL_law_20 ?_
  refine V.iconst (pc := 21) C (v := (4 : Int32)) dL_law_21 (by decide) ?_
  refine V.isub (pc := 22) C dL_law_22 ?_
  refine V.icmp_gt (pc := 23) C (tgt := 819) dL_law_23 (by decide) (fun c1 => ?_) (fun c1 => ?_)
  · have hs := o_if c1 hs
    refine V.iconst (pc := 819) C (v := (1 : Int32)) dL_law_819 (by decide) ?_
    exact V.lawret (pc := 820) C T hs dL_law_820
  · have hs := o_el c1 hs
    refine V.aload_n (pc := 26) C dL_law_26 0 rfl ?_
    refine V.iload_n (pc := 27) C dL_law_27 3 rfl ?_
    obtain ⟨v2, ev2, bv2, hs⟩ := o_lsc hs
    refine V.sld (pc := 28) C X (v := v2) bv2 ev2 dL_law_28 ?_
    refine V.bipush (pc := 29) C (v := (31 : Int32)) dL_law_29 (by decide) ?_
    refine V.iand (pc := 31) C dL_law_31 ?_
    by_cases c202_0 : (v2 &&& (31 : Int32)) = (0 : Int32)
    · have hs := o_if c202_0 hs
      refine V.tin (pc := 32) C (tgt := 164) (off := 132) dL_law_32 c202_0 (by decide) (by decide) (by decide) (by decide) ?_
      refine V.aload_n (pc := 164) C dL_law_164 1 rfl ?_
      refine V.aload_n (pc := 165) C dL_law_165 0 rfl ?_
      refine V.iload_n (pc := 166) C dL_law_166 3 rfl ?_
      refine V.iconst (pc := 167) C (v := (1 : Int32)) dL_law_167 (by decide) ?_
      refine V.iadd (pc := 168) C dL_law_168 ?_
      obtain ⟨v3, ev3, bv3, hs⟩ := o_lsc hs
      refine V.sld (pc := 169) C X (v := v3) bv3 ev3 dL_law_169 ?_
      obtain ⟨v5, h4, ch4, hs⟩ := o_b2 hs
      refine V.callV (pc := 170) C (o := 0) (rm := rmX4_type) (y := yX4_type) (bytes := cX4_type) (maxL := 2) (ret := (some .int)) (n := 1) (As := [.int v3]) (rest := []) (rv := (some (.int v5))) (h1 := h4) (st0 := [.int v3, .ref 0]) (st2 := [.int v5]) (by decide) rfl rfl (ct_X4_type (kL k) ch4) wf_232 wf_233 wf_234 wf_49 wf_235 rfl rfl (by decide +kernel) ⟨by decide, by decide⟩ rfl (Nat.le_of_ble_eq_true rfl) dL_law_170 rfl rfl ?_
      refine V.aload_n (pc := 173) C dL_law_173 2 rfl ?_
      refine V.aload_n (pc := 174) C dL_law_174 0 rfl ?_
      refine V.iload_n (pc := 175) C dL_law_175 3 rfl ?_
      refine V.iconst (pc := 176) C (v := (1 : Int32)) dL_law_176 (by decide) ?_
      refine V.iadd (pc := 177) C dL_law_177 ?_
      obtain ⟨v6, ev6, bv6, hs⟩ := o_lsc hs
      refine V.sld (pc := 178) C X (v := v6) bv6 ev6 dL_law_178 ?_
      obtain ⟨v8, h7, ch7, hs⟩ := o_b2 hs
      refine V.callV (pc := 179) C (o := 20) (rm := rmX5_type) (y := yX5_type) (bytes := cX5_type) (maxL := 2) (ret := (some .int)) (n := 1) (As := [.int v6]) (rest := [.int v5]) (rv := (some (.int v8))) (h1 := h7) (st0 := [.int v6, .ref 20, .int v5]) (st2 := [.int v8, .int v5]) (by decide) rfl rfl (ct_X5_type (kL k) ch7) wf_689 wf_690 wf_691 wf_54 wf_692 rfl rfl (by decide +kernel) ⟨by decide, by decide⟩ rfl (Nat.le_of_ble_eq_true rfl) dL_law_179 rfl rfl ?_
      refine V.icmp_eq (pc := 182) C (tgt := 813) dL_law_182 (by decide) (fun c9 => ?_) (fun c9 => ?_)
      · have hs := o_if c9 hs
        refine V.sub [0, 1, 2, 3] rfl ?_
        exact tb_LW_813 C T X hK18 _ _ hs
      · have hs := o_el c9 hs
        refine V.iconst (pc := 185) C (v := (0 : Int32)) dL_law_185 (by decide) ?_
        exact V.lawret (pc := 186) C T hs dL_law_186
    have hs := o_el c202_0 hs
    by_cases c202_1 : (v2 &&& (31 : Int32)) = (1 : Int32)
    · have hs := o_if c202_1 hs
      refine V.tin (pc := 32) C (tgt := 187) (off := 155) dL_law_32 c202_1 (by decide) (by decide) (by decide) (by decide) ?_
      refine V.aload_n (pc := 187) C dL_law_187 1 rfl ?_
      obtain ⟨v11, h10, ch10, hs⟩ := o_b2 hs
      refine V.callV (pc := 188) C (o := 0) (rm := rmX4_clear) (y := yX4_clear) (bytes := cX4_clear) (maxL := 2) (ret := (some .int)) (n := 0) (As := []) (rest := []) (rv := (some (.int v11))) (h1 := h10) (st0 := [.ref 0]) (st2 := [.int v11]) (by decide) rfl rfl (ct_X4_clear (kL k) ch10) wf_243 wf_244 wf_245 wf_49 wf_246 rfl rfl (by decide +kernel) ⟨by decide, by decide⟩ rfl (Nat.le_of_ble_eq_true rfl) dL_law_188 rfl rfl ?_
      refine V.aload_n (pc := 191) C dL_law_191 2 rfl ?_
      obtain ⟨v13, h12, ch12, hs⟩ := o_b2 hs
      refine V.callV (pc := 192) C (o := 20) (rm := rmX5_clear) (y := yX5_clear) (bytes := cX5_clear) (maxL := 2) (ret := (some .int)) (n := 0) (As := []) (rest := [.int v11]) (rv := (some (.int v13))) (h1 := h12) (st0 := [.ref 20, .int v11]) (st2 := [.int v13, .int v11]) (by decide) rfl rfl (ct_X5_clear (kL k) ch12) wf_696 wf_697 wf_698 wf_54 wf_699 rfl rfl (by decide +kernel) ⟨by decide, by decide⟩ rfl (Nat.le_of_ble_eq_true rfl) dL_law_192 rfl rfl ?_
      refine V.icmp_eq (pc := 195) C (tgt := 813) dL_law_195 (by decide) (fun c14 => ?_) (fun c14 => ?_)
      · have hs := o_if c14 hs
        refine V.sub [0, 1, 2, 3] rfl ?_
        exact tb_LW_813 C T X hK18 _ _ hs
      · have hs := o_el c14 hs
        refine V.iconst (pc := 198) C (v := (0 : Int32)) dL_law_198 (by decide) ?_
        exact V.lawret (pc := 199) C T hs dL_law_199
    have hs := o_el c202_1 hs
    by_cases c202_2 : (v2 &&& (31 : Int32)) = (2 : Int32)
    · have hs := o_if c202_2 hs
      refine V.tin (pc := 32) C (tgt := 200) (off := 168) dL_law_32 c202_2 (by decide) (by decide) (by decide) (by decide) ?_
      refine V.aload_n (pc := 200) C dL_law_200 1 rfl ?_
      obtain ⟨v16, h15, ch15, hs⟩ := o_b2 hs
      refine V.callV (pc := 201) C (o := 0) (rm := rmX4_card) (y := yX4_card) (bytes := cX4_card) (maxL := 2) (ret := (some .int)) (n := 0) (As := []) (rest := []) (rv := (some (.int v16))) (h1 := h15) (st0 := [.ref 0]) (st2 := [.int v16]) (by decide) rfl rfl (ct_X4_card (kL k) ch15) wf_247 wf_248 wf_249 wf_49 wf_250 rfl rfl (by decide +kernel) ⟨by decide, by decide⟩ rfl (Nat.le_of_ble_eq_true rfl) dL_law_201 rfl rfl ?_
      refine V.aload_n (pc := 204) C dL_law_204 2 rfl ?_
      obtain ⟨v18, h17, ch17, hs⟩ := o_b2 hs
      refine V.callV (pc := 205) C (o := 20) (rm := rmX5_card) (y := yX5_card) (bytes := cX5_card) (maxL := 3) (ret := (some .int)) (n := 0) (As := []) (rest := [.int v16]) (rv := (some (.int v18))) (h1 := h17) (st0 := [.ref 20, .int v16]) (st2 := [.int v18, .int v16]) (by decide) rfl rfl (ct_X5_card (kL k) ch17) wf_700 wf_701 wf_702 wf_54 wf_703 rfl rfl (by decide +kernel) ⟨by decide, by decide⟩ rfl (Nat.le_of_ble_eq_true rfl) dL_law_205 rfl rfl ?_
      refine V.icmp_eq (pc := 208) C (tgt := 813) dL_law_208 (by decide) (fun c19 => ?_) (fun c19 => ?_)
      · have hs := o_if c19 hs
        refine V.sub [0, 1, 2, 3] rfl ?_
        exact tb_LW_813 C T X hK18 _ _ hs
      · have hs := o_el c19 hs
        refine V.iconst (pc := 211) C (v := (0 : Int32)) dL_law_211 (by decide) ?_
        exact V.lawret (pc := 212) C T hs dL_law_212
    have hs := o_el c202_2 hs
    by_cases c202_3 : (v2 &&& (31 : Int32)) = (3 : Int32)
    · have hs := o_if c202_3 hs
      refine V.tin (pc := 32) C (tgt := 213) (off := 181) dL_law_32 c202_3 (by decide) (by decide) (by decide) (by decide) ?_
      refine V.aload_n (pc := 213) C dL_law_213 1 rfl ?_
      refine V.aload_n (pc := 214) C dL_law_214 0 rfl ?_
      refine V.iload_n (pc := 215) C dL_law_215 3 rfl ?_
      refine V.iconst (pc := 216) C (v := (1 : Int32)) dL_law_216 (by decide) ?_
      refine V.iadd (pc := 217) C dL_law_217 ?_
      obtain ⟨v20, ev20, bv20, hs⟩ := o_lsc hs
      refine V.sld (pc := 218) C X (v := v20) bv20 ev20 dL_law_218 ?_
      obtain ⟨v22, h21, ch21, hs⟩ := o_b2 hs
      refine V.callV (pc := 219) C (o := 0) (rm := rmX4_line) (y := yX4_line) (bytes := cX4_line) (maxL := 2) (ret := (some .int)) (n := 1) (As := [.int v20]) (rest := []) (rv := (some (.int v22))) (h1 := h21) (st0 := [.int v20, .ref 0]) (st2 := [.int v22]) (by decide) rfl rfl (ct_X4_line (kL k) ch21) wf_323 wf_324 wf_325 wf_49 wf_326 rfl rfl (by decide +kernel) ⟨by decide, by decide⟩ rfl (Nat.le_of_ble_eq_true rfl) dL_law_219 rfl rfl ?_
      refine V.aload_n (pc := 222) C dL_law_222 2 rfl ?_
      refine V.aload_n (pc := 223) C dL_law_223 0 rfl ?_
      refine V.iload_n (pc := 224) C dL_law_224 3 rfl ?_
      refine V.iconst (pc := 225) C (v := (1 : Int32)) dL_law_225 (by decide) ?_
      refine V.iadd (pc := 226) C dL_law_226 ?_
      obtain ⟨v23, ev23, bv23, hs⟩ := o_lsc hs
      refine V.sld (pc := 227) C X (v := v23) bv23 ev23 dL_law_227 ?_
      obtain ⟨v25, h24, ch24, hs⟩ := o_b2 hs
      refine V.callV (pc := 228) C (o := 20) (rm := rmX5_line) (y := yX5_line) (bytes := cX5_line) (maxL := 2) (ret := (some .int)) (n := 1) (As := [.int v23]) (rest := [.int v22]) (rv := (some (.int v25))) (h1 := h24) (st0 := [.int v23, .ref 20, .int v22]) (st2 := [.int v25, .int v22]) (by decide) rfl rfl (ct_X5_line (kL k) ch24) wf_728 wf_729 wf_730 wf_54 wf_731 rfl rfl (by decide +kernel) ⟨by decide, by decide⟩ rfl (Nat.le_of_ble_eq_true rfl) dL_law_228 rfl rfl ?_
      refine V.icmp_eq (pc := 231) C (tgt := 813) dL_law_231 (by decide) (fun c26 => ?_) (fun c26 => ?_)
      · have hs := o_if c26 hs
        refine V.sub [0, 1, 2, 3] rfl ?_
        exact tb_LW_813 C T X hK18 _ _ hs
      · have hs := o_el c26 hs
        refine V.iconst (pc := 234) C (v := (0 : Int32)) dL_law_234 (by decide) ?_
        exact V.lawret (pc := 235) C T hs dL_law_235
    have hs := o_el c202_3 hs
    by_cases c202_4 : (v2 &&& (31 : Int32)) = (4 : Int32)
    · have hs := o_if c202_4 hs
      refine V.tin (pc := 32) C (tgt := 236) (off := 204) dL_law_32 c202_4 (by decide) (by decide) (by decide) (by decide) ?_
      refine V.aload_n (pc := 236) C dL_law_236 1 rfl ?_
      refine V.aload_n (pc := 237) C dL_law_237 0 rfl ?_
      refine V.iload_n (pc := 238) C dL_law_238 3 rfl ?_
      refine V.iconst (pc := 239) C (v := (1 : Int32)) dL_law_239 (by decide) ?_
      refine V.iadd (pc := 240) C dL_law_240 ?_
      obtain ⟨v27, ev27, bv27, hs⟩ := o_lsc hs
      refine V.sld (pc := 241) C X (v := v27) bv27 ev27 dL_law_241 ?_
      refine V.aload_n (pc := 242) C dL_law_242 0 rfl ?_
      refine V.iload_n (pc := 243) C dL_law_243 3 rfl ?_
      refine V.iconst (pc := 244) C (v := (2 : Int32)) dL_law_244 (by decide) ?_
      refine V.iadd (pc := 245) C dL_law_245 ?_
      obtain ⟨v28, ev28, bv28, hs⟩ := o_lsc hs
      refine V.sld (pc := 246) C X (v := v28) bv28 ev28 dL_law_246 ?_
      obtain ⟨v30, h29, ch29, hs⟩ := o_b2 hs
      refine V.callV (pc := 247) C (o := 0) (rm := rmX4_word) (y := yX4_word) (bytes := cX4_word) (maxL := 3) (ret := (some .int)) (n := 2) (As := [.int v27, .int v28]) (rest := []) (rv := (some (.int v30))) (h1 := h29) (st0 := [.int v28, .int v27, .ref 0]) (st2 := [.int v30]) (by decide) rfl rfl (ct_X4_word (kL k) ch29) wf_329 wf_330 wf_331 wf_49 wf_332 rfl rfl (by decide +kernel) ⟨by decide, by decide⟩ rfl (Nat.le_of_ble_eq_true rfl) dL_law_247 rfl rfl ?_
      refine V.aload_n (pc := 250) C dL_law_250 2 rfl ?_
      refine V.aload_n (pc := 251) C dL_law_251 0 rfl ?_
      refine V.iload_n (pc := 252) C dL_law_252 3 rfl ?_
      refine V.iconst (pc := 253) C (v := (1 : Int32)) dL_law_253 (by decide) ?_
      refine V.iadd (pc := 254) C dL_law_254 ?_
      obtain ⟨v31, ev31, bv31, hs⟩ := o_lsc hs
      refine V.sld (pc := 255) C X (v := v31) bv31 ev31 dL_law_255 ?_
      refine V.aload_n (pc := 256) C dL_law_256 0 rfl ?_
      refine V.iload_n (pc := 257) C dL_law_257 3 rfl ?_
      refine V.iconst (pc := 258) C (v := (2 : Int32)) dL_law_258 (by decide) ?_
      refine V.iadd (pc := 259) C dL_law_259 ?_
      obtain ⟨v32, ev32, bv32, hs⟩ := o_lsc hs
      refine V.sld (pc := 260) C X (v := v32) bv32 ev32 dL_law_260 ?_
      obtain ⟨v34, h33, ch33, hs⟩ := o_b2 hs
      refine V.callV (pc := 261) C (o := 20) (rm := rmX5_word) (y := yX5_word) (bytes := cX5_word) (maxL := 3) (ret := (some .int)) (n := 2) (As := [.int v31, .int v32]) (rest := [.int v30]) (rv := (some (.int v34))) (h1 := h33) (st0 := [.int v32, .int v31, .ref 20, .int v30]) (st2 := [.int v34, .int v30]) (by decide) rfl rfl (ct_X5_word (kL k) ch33) wf_736 wf_737 wf_738 wf_54 wf_739 rfl rfl (by decide +kernel) ⟨by decide, by decide⟩ rfl (Nat.le_of_ble_eq_true rfl) dL_law_261 rfl rfl ?_
      refine V.icmp_eq (pc := 264) C (tgt := 813) dL_law_264 (by decide) (fun c35 => ?_) (fun c35 => ?_)
      · have hs := o_if c35 hs
        refine V.sub [0, 1, 2, 3] rfl ?_
        exact tb_LW_813 C T X hK18 _ _ hs
      · have hs := o_el c35 hs
        refine V.iconst (pc := 267) C (v := (0 : Int32)) dL_law_267 (by decide) ?_
        exact V.lawret (pc := 268) C T hs dL_law_268
    have hs := o_el c202_4 hs
    by_cases c202_5 : (v2 &&& (31 : Int32)) = (5 : Int32)
    · have hs := o_if c202_5 hs
      refine V.tin (pc := 32) C (tgt := 269) (off := 237) dL_law_32 c202_5 (by decide) (by decide) (by decide) (by decide) ?_
      refine V.aload_n (pc := 269) C dL_law_269 1 rfl ?_
      obtain ⟨v37, h36, ch36, hs⟩ := o_b2 hs
      refine V.callV (pc := 270) C (o := 0) (rm := rmX4_writes) (y := yX4_writes) (bytes := cX4_writes) (maxL := 1) (ret := (some .int)) (n := 0) (As := []) (rest := []) (rv := (some (.int v37))) (h1 := h36) (st0 := [.ref 0]) (st2 := [.int v37]) (by decide) rfl rfl (ct_X4_writes (kL k) ch36) wf_342 wf_343 wf_344 wf_49 wf_345 rfl rfl (by decide +kernel) ⟨by decide, by decide⟩ rfl (Nat.le_of_ble_eq_true rfl) dL_law_270 rfl rfl ?_
      refine V.aload_n (pc := 273) C dL_law_273 2 rfl ?_
      obtain ⟨v39, h38, ch38, hs⟩ := o_b2 hs
      refine V.callV (pc := 274) C (o := 20) (rm := rmX5_writes) (y := yX5_writes) (bytes := cX5_writes) (maxL := 1) (ret := (some .int)) (n := 0) (As := []) (rest := [.int v37]) (rv := (some (.int v39))) (h1 := h38) (st0 := [.ref 20, .int v37]) (st2 := [.int v39, .int v37]) (by decide) rfl rfl (ct_X5_writes (kL k) ch38) wf_748 wf_749 wf_750 wf_54 wf_751 rfl rfl (by decide +kernel) ⟨by decide, by decide⟩ rfl (Nat.le_of_ble_eq_true rfl) dL_law_274 rfl rfl ?_
      refine V.icmp_eq (pc := 277) C (tgt := 813) dL_law_277 (by decide) (fun c40 => ?_) (fun c40 => ?_)
      · have hs := o_if c40 hs
        refine V.sub [0, 1, 2, 3] rfl ?_
        exact tb_LW_813 C T X hK18 _ _ hs
      · have hs := o_el c40 hs
        refine V.iconst (pc := 280) C (v := (0 : Int32)) dL_law_280 (by decide) ?_
        exact V.lawret (pc := 281) C T hs dL_law_281
    have hs := o_el c202_5 hs
    by_cases c202_6 : (v2 &&& (31 : Int32)) = (6 : Int32)
    · have hs := o_if c202_6 hs
      refine V.tin (pc := 32) C (tgt := 282) (off := 250) dL_law_32 c202_6 (by decide) (by decide) (by decide) (by decide) ?_
      refine V.aload_n (pc := 282) C dL_law_282 1 rfl ?_
      obtain ⟨v42, h41, ch41, hs⟩ := o_b2 hs
      refine V.callV (pc := 283) C (o := 0) (rm := rmX4_signs) (y := yX4_signs) (bytes := cX4_signs) (maxL := 1) (ret := (some .int)) (n := 0) (As := []) (rest := []) (rv := (some (.int v42))) (h1 := h41) (st0 := [.ref 0]) (st2 := [.int v42]) (by decide) rfl rfl (ct_X4_signs (kL k) ch41) wf_368 wf_369 wf_370 wf_49 wf_371 rfl rfl (by decide +kernel) ⟨by decide, by decide⟩ rfl (Nat.le_of_ble_eq_true rfl) dL_law_283 rfl rfl ?_
      refine V.aload_n (pc := 286) C dL_law_286 2 rfl ?_
      obtain ⟨v44, h43, ch43, hs⟩ := o_b2 hs
      refine V.callV (pc := 287) C (o := 20) (rm := rmX5_signs) (y := yX5_signs) (bytes := cX5_signs) (maxL := 1) (ret := (some .int)) (n := 0) (As := []) (rest := [.int v42]) (rv := (some (.int v44))) (h1 := h43) (st0 := [.ref 20, .int v42]) (st2 := [.int v44, .int v42]) (by decide) rfl rfl (ct_X5_signs (kL k) ch43) wf_768 wf_769 wf_770 wf_54 wf_771 rfl rfl (by decide +kernel) ⟨by decide, by decide⟩ rfl (Nat.le_of_ble_eq_true rfl) dL_law_287 rfl rfl ?_
      refine V.icmp_eq (pc := 290) C (tgt := 813) dL_law_290 (by decide) (fun c45 => ?_) (fun c45 => ?_)
      · have hs := o_if c45 hs
        refine V.sub [0, 1, 2, 3] rfl ?_
        exact tb_LW_813 C T X hK18 _ _ hs
      · have hs := o_el c45 hs
        refine V.iconst (pc := 293) C (v := (0 : Int32)) dL_law_293 (by decide) ?_
        exact V.lawret (pc := 294) C T hs dL_law_294
    have hs := o_el c202_6 hs
    by_cases c202_7 : (v2 &&& (31 : Int32)) = (7 : Int32)
    · have hs := o_if c202_7 hs
      refine V.tin (pc := 32) C (tgt := 295) (off := 263) dL_law_32 c202_7 (by decide) (by decide) (by decide) (by decide) ?_
      refine V.aload_n (pc := 295) C dL_law_295 1 rfl ?_
      obtain ⟨v47, h46, ch46, hs⟩ := o_b2 hs
      refine V.callV (pc := 296) C (o := 0) (rm := rmX4_breaks) (y := yX4_breaks) (bytes := cX4_breaks) (maxL := 2) (ret := (some .int)) (n := 0) (As := []) (rest := []) (rv := (some (.int v47))) (h1 := h46) (st0 := [.ref 0]) (st2 := [.int v47]) (by decide) rfl rfl (ct_X4_breaks (kL k) ch46) wf_372 wf_373 wf_374 wf_49 wf_375 rfl rfl (by decide +kernel) ⟨by decide, by decide⟩ rfl (Nat.le_of_ble_eq_true rfl) dL_law_296 rfl rfl ?_
      refine V.aload_n (pc := 299) C dL_law_299 2 rfl ?_
      obtain ⟨v49, h48, ch48, hs⟩ := o_b2 hs
      refine V.callV (pc := 300) C (o := 20) (rm := rmX5_breaks) (y := yX5_breaks) (bytes := cX5_breaks) (maxL := 4) (ret := (some .int)) (n := 0) (As := []) (rest := [.int v47]) (rv := (some (.int v49))) (h1 := h48) (st0 := [.ref 20, .int v47]) (st2 := [.int v49, .int v47]) (by decide) rfl rfl (ct_X5_breaks (kL k) ch48) wf_772 wf_773 wf_774 wf_54 wf_775 rfl rfl (by decide +kernel) ⟨by decide, by decide⟩ rfl (Nat.le_of_ble_eq_true rfl) dL_law_300 rfl rfl ?_
      refine V.icmp_eq (pc := 303) C (tgt := 813) dL_law_303 (by decide) (fun c50 => ?_) (fun c50 => ?_)
      · have hs := o_if c50 hs
        refine V.sub [0, 1, 2, 3] rfl ?_
        exact tb_LW_813 C T X hK18 _ _ hs
      · have hs := o_el c50 hs
        refine V.iconst (pc := 306) C (v := (0 : Int32)) dL_law_306 (by decide) ?_
        exact V.lawret (pc := 307) C T hs dL_law_307
    have hs := o_el c202_7 hs
    by_cases c202_8 : (v2 &&& (31 : Int32)) = (8 : Int32)
    · have hs := o_if c202_8 hs
      refine V.tin (pc := 32) C (tgt := 308) (off := 276) dL_law_32 c202_8 (by decide) (by decide) (by decide) (by decide) ?_
      refine V.aload_n (pc := 308) C dL_law_308 1 rfl ?_
      obtain ⟨v52, h51, ch51, hs⟩ := o_b2 hs
      refine V.callV (pc := 309) C (o := 0) (rm := rmX4_omits) (y := yX4_omits) (bytes := cX4_omits) (maxL := 1) (ret := (some .int)) (n := 0) (As := []) (rest := []) (rv := (some (.int v52))) (h1 := h51) (st0 := [.ref 0]) (st2 := [.int v52]) (by decide) rfl rfl (ct_X4_omits (kL k) ch51) wf_380 wf_381 wf_382 wf_49 wf_383 rfl rfl (by decide +kernel) ⟨by decide, by decide⟩ rfl (Nat.le_of_ble_eq_true rfl) dL_law_309 rfl rfl ?_
      refine V.aload_n (pc := 312) C dL_law_312 2 rfl ?_
      obtain ⟨v54, h53, ch53, hs⟩ := o_b2 hs
      refine V.callV (pc := 313) C (o := 20) (rm := rmX5_omits) (y := yX5_omits) (bytes := cX5_omits) (maxL := 1) (ret := (some .int)) (n := 0) (As := []) (rest := [.int v52]) (rv := (some (.int v54))) (h1 := h53) (st0 := [.ref 20, .int v52]) (st2 := [.int v54, .int v52]) (by decide) rfl rfl (ct_X5_omits (kL k) ch53) wf_776 wf_777 wf_778 wf_54 wf_779 rfl rfl (by decide +kernel) ⟨by decide, by decide⟩ rfl (Nat.le_of_ble_eq_true rfl) dL_law_313 rfl rfl ?_
      refine V.icmp_eq (pc := 316) C (tgt := 813) dL_law_316 (by decide) (fun c55 => ?_) (fun c55 => ?_)
      · have hs := o_if c55 hs
        refine V.sub [0, 1, 2, 3] rfl ?_
        exact tb_LW_813 C T X hK18 _ _ hs
      · have hs := o_el c55 hs
        refine V.iconst (pc := 319) C (v := (0 : Int32)) dL_law_319 (by decide) ?_
        exact V.lawret (pc := 320) C T hs dL_law_320
    have hs := o_el c202_8 hs
    by_cases c202_9 : (v2 &&& (31 : Int32)) = (9 : Int32)
    · have hs := o_if c202_9 hs
      refine V.tin (pc := 32) C (tgt := 321) (off := 289) dL_law_32 c202_9 (by decide) (by decide) (by decide) (by decide) ?_
      refine V.aload_n (pc := 321) C dL_law_321 1 rfl ?_
      refine V.aload_n (pc := 322) C dL_law_322 0 rfl ?_
      refine V.iload_n (pc := 323) C dL_law_323 3 rfl ?_
      refine V.iconst (pc := 324) C (v := (1 : Int32)) dL_law_324 (by decide) ?_
      refine V.iadd (pc := 325) C dL_law_325 ?_
      obtain ⟨v56, ev56, bv56, hs⟩ := o_lsc hs
      refine V.sld (pc := 326) C X (v := v56) bv56 ev56 dL_law_326 ?_
      obtain ⟨v58, h57, ch57, hs⟩ := o_b2 hs
      refine V.callV (pc := 327) C (o := 0) (rm := rmX4_smaller) (y := yX4_smaller) (bytes := cX4_smaller) (maxL := 2) (ret := (some .int)) (n := 1) (As := [.int v56]) (rest := []) (rv := (some (.int v58))) (h1 := h57) (st0 := [.int v56, .ref 0]) (st2 := [.int v58]) (by decide) rfl rfl (ct_X4_smaller (kL k) ch57) wf_395 wf_396 wf_397 wf_49 wf_398 rfl rfl (by decide +kernel) ⟨by decide, by decide⟩ rfl (Nat.le_of_ble_eq_true rfl) dL_law_327 rfl rfl ?_
      refine V.aload_n (pc := 330) C dL_law_330 2 rfl ?_
      refine V.aload_n (pc := 331) C dL_law_331 0 rfl ?_
      refine V.iload_n (pc := 332) C dL_law_332 3 rfl ?_
      refine V.iconst (pc := 333) C (v := (1 : Int32)) dL_law_333 (by decide) ?_
      refine V.iadd (pc := 334) C dL_law_334 ?_
      obtain ⟨v59, ev59, bv59, hs⟩ := o_lsc hs
      refine V.sld (pc := 335) C X (v := v59) bv59 ev59 dL_law_335 ?_
      obtain ⟨v61, h60, ch60, hs⟩ := o_b2 hs
      refine V.callV (pc := 336) C (o := 20) (rm := rmX5_smaller) (y := yX5_smaller) (bytes := cX5_smaller) (maxL := 3) (ret := (some .int)) (n := 1) (As := [.int v59]) (rest := [.int v58]) (rv := (some (.int v61))) (h1 := h60) (st0 := [.int v59, .ref 20, .int v58]) (st2 := [.int v61, .int v58]) (by decide) rfl rfl (ct_X5_smaller (kL k) ch60) wf_783 wf_784 wf_785 wf_54 wf_786 rfl rfl (by decide +kernel) ⟨by decide, by decide⟩ rfl (Nat.le_of_ble_eq_true rfl) dL_law_336 rfl rfl ?_
      refine V.icmp_eq (pc := 339) C (tgt := 813) dL_law_339 (by decide) (fun c62 => ?_) (fun c62 => ?_)
      · have hs := o_if c62 hs
        refine V.sub [0, 1, 2, 3] rfl ?_
        exact tb_LW_813 C T X hK18 _ _ hs
      · have hs := o_el c62 hs
        refine V.iconst (pc := 342) C (v := (0 : Int32)) dL_law_342 (by decide) ?_
        exact V.lawret (pc := 343) C T hs dL_law_343
    have hs := o_el c202_9 hs
    by_cases c202_10 : (v2 &&& (31 : Int32)) = (10 : Int32)
    · have hs := o_if c202_10 hs
      refine V.tin (pc := 32) C (tgt := 344) (off := 312) dL_law_32 c202_10 (by decide) (by decide) (by decide) (by decide) ?_
      refine V.aload_n (pc := 344) C dL_law_344 1 rfl ?_
      obtain ⟨v64, h63, ch63, hs⟩ := o_b2 hs
      refine V.callV (pc := 345) C (o := 0) (rm := rmX4_turnsOver) (y := yX4_turnsOver) (bytes := cX4_turnsOver) (maxL := 1) (ret := (some .int)) (n := 0) (As := []) (rest := []) (rv := (some (.int v64))) (h1 := h63) (st0 := [.ref 0]) (st2 := [.int v64]) (by decide) rfl rfl (ct_X4_turnsOver (kL k) ch63) wf_403 wf_404 wf_405 wf_49 wf_406 rfl rfl (by decide +kernel) ⟨by decide, by decide⟩ rfl (Nat.le_of_ble_eq_true rfl) dL_law_345 rfl rfl ?_
      refine V.aload_n (pc := 348) C dL_law_348 2 rfl ?_
      obtain ⟨v66, h65, ch65, hs⟩ := o_b2 hs
      refine V.callV (pc := 349) C (o := 20) (rm := rmX5_turnsOver) (y := yX5_turnsOver) (bytes := cX5_turnsOver) (maxL := 1) (ret := (some .int)) (n := 0) (As := []) (rest := [.int v64]) (rv := (some (.int v66))) (h1 := h65) (st0 := [.ref 20, .int v64]) (st2 := [.int v66, .int v64]) (by decide) rfl rfl (ct_X5_turnsOver (kL k) ch65) wf_787 wf_788 wf_789 wf_54 wf_790 rfl rfl (by decide +kernel) ⟨by decide, by decide⟩ rfl (Nat.le_of_ble_eq_true rfl) dL_law_349 rfl rfl ?_
      refine V.icmp_eq (pc := 352) C (tgt := 813) dL_law_352 (by decide) (fun c67 => ?_) (fun c67 => ?_)
      · have hs := o_if c67 hs
        refine V.sub [0, 1, 2, 3] rfl ?_
        exact tb_LW_813 C T X hK18 _ _ hs
      · have hs := o_el c67 hs
        refine V.iconst (pc := 355) C (v := (0 : Int32)) dL_law_355 (by decide) ?_
        exact V.lawret (pc := 356) C T hs dL_law_356
    have hs := o_el c202_10 hs
    by_cases c202_11 : (v2 &&& (31 : Int32)) = (11 : Int32)
    · have hs := o_if c202_11 hs
      refine V.tin (pc := 32) C (tgt := 357) (off := 325) dL_law_32 c202_11 (by decide) (by decide) (by decide) (by decide) ?_
      refine V.aload_n (pc := 357) C dL_law_357 1 rfl ?_
      obtain ⟨v69, h68, ch68, hs⟩ := o_b2 hs
      refine V.callV (pc := 358) C (o := 0) (rm := rmX4_undo) (y := yX4_undo) (bytes := cX4_undo) (maxL := 1) (ret := (some .int)) (n := 0) (As := []) (rest := []) (rv := (some (.int v69))) (h1 := h68) (st0 := [.ref 0]) (st2 := [.int v69]) (by decide) rfl rfl (ct_X4_undo (kL k) ch68) wf_411 wf_412 wf_413 wf_49 wf_414 rfl rfl (by decide +kernel) ⟨by decide, by decide⟩ rfl (Nat.le_of_ble_eq_true rfl) dL_law_358 rfl rfl ?_
      refine V.aload_n (pc := 361) C dL_law_361 2 rfl ?_
      obtain ⟨v71, h70, ch70, hs⟩ := o_b2 hs
      refine V.callV (pc := 362) C (o := 20) (rm := rmX5_undo) (y := yX5_undo) (bytes := cX5_undo) (maxL := 2) (ret := (some .int)) (n := 0) (As := []) (rest := [.int v69]) (rv := (some (.int v71))) (h1 := h70) (st0 := [.ref 20, .int v69]) (st2 := [.int v71, .int v69]) (by decide) rfl rfl (ct_X5_undo (kL k) ch70) wf_791 wf_792 wf_793 wf_54 wf_794 rfl rfl (by decide +kernel) ⟨by decide, by decide⟩ rfl (Nat.le_of_ble_eq_true rfl) dL_law_362 rfl rfl ?_
      refine V.icmp_eq (pc := 365) C (tgt := 813) dL_law_365 (by decide) (fun c72 => ?_) (fun c72 => ?_)
      · have hs := o_if c72 hs
        refine V.sub [0, 1, 2, 3] rfl ?_
        exact tb_LW_813 C T X hK18 _ _ hs
      · have hs := o_el c72 hs
        refine V.iconst (pc := 368) C (v := (0 : Int32)) dL_law_368 (by decide) ?_
        exact V.lawret (pc := 369) C T hs dL_law_369
    have hs := o_el c202_11 hs
    by_cases c202_12 : (v2 &&& (31 : Int32)) = (12 : Int32)
    · have hs := o_if c202_12 hs
      refine V.tin (pc := 32) C (tgt := 370) (off := 338) dL_law_32 c202_12 (by decide) (by decide) (by decide) (by decide) ?_
      refine V.aload_n (pc := 370) C dL_law_370 1 rfl ?_
      refine V.aload_n (pc := 371) C dL_law_371 0 rfl ?_
      refine V.iload_n (pc := 372) C dL_law_372 3 rfl ?_
      refine V.iconst (pc := 373) C (v := (1 : Int32)) dL_law_373 (by decide) ?_
      refine V.iadd (pc := 374) C dL_law_374 ?_
      obtain ⟨v73, ev73, bv73, hs⟩ := o_lsc hs
      refine V.sld (pc := 375) C X (v := v73) bv73 ev73 dL_law_375 ?_
      obtain ⟨v75, h74, ch74, hs⟩ := o_b2 hs
      refine V.callV (pc := 376) C (o := 0) (rm := rmX4_now) (y := yX4_now) (bytes := cX4_now) (maxL := 2) (ret := (some .int)) (n := 1) (As := [.int v73]) (rest := []) (rv := (some (.int v75))) (h1 := h74) (st0 := [.int v73, .ref 0]) (st2 := [.int v75]) (by decide) rfl rfl (ct_X4_now (kL k) ch74) wf_419 wf_420 wf_421 wf_49 wf_422 rfl rfl (by decide +kernel) ⟨by decide, by decide⟩ rfl (Nat.le_of_ble_eq_true rfl) dL_law_376 rfl rfl ?_
      refine V.aload_n (pc := 379) C dL_law_379 2 rfl ?_
      refine V.aload_n (pc := 380) C dL_law_380 0 rfl ?_
      refine V.iload_n (pc := 381) C dL_law_381 3 rfl ?_
      refine V.iconst (pc := 382) C (v := (1 : Int32)) dL_law_382 (by decide) ?_
      refine V.iadd (pc := 383) C dL_law_383 ?_
      obtain ⟨v76, ev76, bv76, hs⟩ := o_lsc hs
      refine V.sld (pc := 384) C X (v := v76) bv76 ev76 dL_law_384 ?_
      obtain ⟨v78, h77, ch77, hs⟩ := o_b2 hs
      refine V.callV (pc := 385) C (o := 20) (rm := rmX5_now) (y := yX5_now) (bytes := cX5_now) (maxL := 2) (ret := (some .int)) (n := 1) (As := [.int v76]) (rest := [.int v75]) (rv := (some (.int v78))) (h1 := h77) (st0 := [.int v76, .ref 20, .int v75]) (st2 := [.int v78, .int v75]) (by decide) rfl rfl (ct_X5_now (kL k) ch77) wf_795 wf_796 wf_797 wf_54 wf_798 rfl rfl (by decide +kernel) ⟨by decide, by decide⟩ rfl (Nat.le_of_ble_eq_true rfl) dL_law_385 rfl rfl ?_
      refine V.icmp_eq (pc := 388) C (tgt := 813) dL_law_388 (by decide) (fun c79 => ?_) (fun c79 => ?_)
      · have hs := o_if c79 hs
        refine V.sub [0, 1, 2, 3] rfl ?_
        exact tb_LW_813 C T X hK18 _ _ hs
      · have hs := o_el c79 hs
        refine V.iconst (pc := 391) C (v := (0 : Int32)) dL_law_391 (by decide) ?_
        exact V.lawret (pc := 392) C T hs dL_law_392
    have hs := o_el c202_12 hs
    by_cases c202_13 : (v2 &&& (31 : Int32)) = (13 : Int32)
    · have hs := o_if c202_13 hs
      refine V.tin (pc := 32) C (tgt := 393) (off := 361) dL_law_32 c202_13 (by decide) (by decide) (by decide) (by decide) ?_
      refine V.aload_n (pc := 393) C dL_law_393 1 rfl ?_
      refine V.aload_n (pc := 394) C dL_law_394 0 rfl ?_
      refine V.iload_n (pc := 395) C dL_law_395 3 rfl ?_
      refine V.iconst (pc := 396) C (v := (1 : Int32)) dL_law_396 (by decide) ?_
      refine V.iadd (pc := 397) C dL_law_397 ?_
      obtain ⟨v80, ev80, bv80, hs⟩ := o_lsc hs
      refine V.sld (pc := 398) C X (v := v80) bv80 ev80 dL_law_398 ?_
      refine V.aload_n (pc := 399) C dL_law_399 0 rfl ?_
      refine V.iload_n (pc := 400) C dL_law_400 3 rfl ?_
      refine V.iconst (pc := 401) C (v := (2 : Int32)) dL_law_401 (by decide) ?_
      refine V.iadd (pc := 402) C dL_law_402 ?_
      obtain ⟨v81, ev81, bv81, hs⟩ := o_lsc hs
      refine V.sld (pc := 403) C X (v := v81) bv81 ev81 dL_law_403 ?_
      refine V.aload_n (pc := 404) C dL_law_404 0 rfl ?_
      refine V.iload_n (pc := 405) C dL_law_405 3 rfl ?_
      refine V.iconst (pc := 406) C (v := (3 : Int32)) dL_law_406 (by decide) ?_
      refine V.iadd (pc := 407) C dL_law_407 ?_
      obtain ⟨v82, ev82, bv82, hs⟩ := o_lsc hs
      refine V.sld (pc := 408) C X (v := v82) bv82 ev82 dL_law_408 ?_
      obtain ⟨v84, h83, ch83, hs⟩ := o_b2 hs
      refine V.callV (pc := 409) C (o := 0) (rm := rmX4_fill) (y := yX4_fill) (bytes := cX4_fill) (maxL := 4) (ret := (some .int)) (n := 3) (As := [.int v80, .int v81, .int v82]) (rest := []) (rv := (some (.int v84))) (h1 := h83) (st0 := [.int v82, .int v81, .int v80, .ref 0]) (st2 := [.int v84]) (by decide) rfl rfl (ct_X4_fill (kL k) ch83) wf_437 wf_438 wf_439 wf_49 wf_440 rfl rfl (by decide +kernel) ⟨by decide, by decide⟩ rfl (Nat.le_of_ble_eq_true rfl) dL_law_409 rfl rfl ?_
      refine V.aload_n (pc := 412) C dL_law_412 2 rfl ?_
      refine V.aload_n (pc := 413) C dL_law_413 0 rfl ?_
      refine V.iload_n (pc := 414) C dL_law_414 3 rfl ?_
      refine V.iconst (pc := 415) C (v := (1 : Int32)) dL_law_415 (by decide) ?_
      refine V.iadd (pc := 416) C dL_law_416 ?_
      obtain ⟨v85, ev85, bv85, hs⟩ := o_lsc hs
      refine V.sld (pc := 417) C X (v := v85) bv85 ev85 dL_law_417 ?_
      refine V.aload_n (pc := 418) C dL_law_418 0 rfl ?_
      refine V.iload_n (pc := 419) C dL_law_419 3 rfl ?_
      refine V.iconst (pc := 420) C (v := (2 : Int32)) dL_law_420 (by decide) ?_
      refine V.iadd (pc := 421) C dL_law_421 ?_
      obtain ⟨v86, ev86, bv86, hs⟩ := o_lsc hs
      refine V.sld (pc := 422) C X (v := v86) bv86 ev86 dL_law_422 ?_
      refine V.aload_n (pc := 423) C dL_law_423 0 rfl ?_
      refine V.iload_n (pc := 424) C dL_law_424 3 rfl ?_
      refine V.iconst (pc := 425) C (v := (3 : Int32)) dL_law_425 (by decide) ?_
      refine V.iadd (pc := 426) C dL_law_426 ?_
      obtain ⟨v87, ev87, bv87, hs⟩ := o_lsc hs
      refine V.sld (pc := 427) C X (v := v87) bv87 ev87 dL_law_427 ?_
      obtain ⟨v89, h88, ch88, hs⟩ := o_b2 hs
      refine V.callV (pc := 428) C (o := 20) (rm := rmX5_fill) (y := yX5_fill) (bytes := cX5_fill) (maxL := 4) (ret := (some .int)) (n := 3) (As := [.int v85, .int v86, .int v87]) (rest := [.int v84]) (rv := (some (.int v89))) (h1 := h88) (st0 := [.int v87, .int v86, .int v85, .ref 20, .int v84]) (st2 := [.int v89, .int v84]) (by decide) rfl rfl (ct_X5_fill (kL k) ch88) wf_811 wf_812 wf_813 wf_54 wf_814 rfl rfl (by decide +kernel) ⟨by decide, by decide⟩ rfl (Nat.le_of_ble_eq_true rfl) dL_law_428 rfl rfl ?_
      refine V.icmp_eq (pc := 431) C (tgt := 813) dL_law_431 (by decide) (fun c90 => ?_) (fun c90 => ?_)
      · have hs := o_if c90 hs
        refine V.sub [0, 1, 2, 3] rfl ?_
        exact tb_LW_813 C T X hK18 _ _ hs
      · have hs := o_el c90 hs
        refine V.iconst (pc := 434) C (v := (0 : Int32)) dL_law_434 (by decide) ?_
        exact V.lawret (pc := 435) C T hs dL_law_435
    have hs := o_el c202_13 hs
    by_cases c202_14 : (v2 &&& (31 : Int32)) = (14 : Int32)
    · have hs := o_if c202_14 hs
      refine V.tin (pc := 32) C (tgt := 436) (off := 404) dL_law_32 c202_14 (by decide) (by decide) (by decide) (by decide) ?_
      refine V.aload_n (pc := 436) C dL_law_436 1 rfl ?_
      obtain ⟨v92, h91, ch91, hs⟩ := o_b2 hs
      refine V.callV (pc := 437) C (o := 0) (rm := rmX4_greatest) (y := yX4_greatest) (bytes := cX4_greatest) (maxL := 2) (ret := (some .int)) (n := 0) (As := []) (rest := []) (rv := (some (.int v92))) (h1 := h91) (st0 := [.ref 0]) (st2 := [.int v92]) (by decide) rfl rfl (ct_X4_greatest (kL k) ch91) wf_467 wf_468 wf_469 wf_49 wf_470 rfl rfl (by decide +kernel) ⟨by decide, by decide⟩ rfl (Nat.le_of_ble_eq_true rfl) dL_law_437 rfl rfl ?_
      refine V.aload_n (pc := 440) C dL_law_440 2 rfl ?_
      obtain ⟨v94, h93, ch93, hs⟩ := o_b2 hs
      refine V.callV (pc := 441) C (o := 20) (rm := rmX5_greatest) (y := yX5_greatest) (bytes := cX5_greatest) (maxL := 2) (ret := (some .int)) (n := 0) (As := []) (rest := [.int v92]) (rv := (some (.int v94))) (h1 := h93) (st0 := [.ref 20, .int v92]) (st2 := [.int v94, .int v92]) (by decide) rfl rfl (ct_X5_greatest (kL k) ch93) wf_835 wf_836 wf_837 wf_54 wf_838 rfl rfl (by decide +kernel) ⟨by decide, by decide⟩ rfl (Nat.le_of_ble_eq_true rfl) dL_law_441 rfl rfl ?_
      refine V.icmp_eq (pc := 444) C (tgt := 813) dL_law_444 (by decide) (fun c95 => ?_) (fun c95 => ?_)
      · have hs := o_if c95 hs
        refine V.sub [0, 1, 2, 3] rfl ?_
        exact tb_LW_813 C T X hK18 _ _ hs
      · have hs := o_el c95 hs
        refine V.iconst (pc := 447) C (v := (0 : Int32)) dL_law_447 (by decide) ?_
        exact V.lawret (pc := 448) C T hs dL_law_448
    have hs := o_el c202_14 hs
    by_cases c202_15 : (v2 &&& (31 : Int32)) = (15 : Int32)
    · have hs := o_if c202_15 hs
      refine V.tin (pc := 32) C (tgt := 449) (off := 417) dL_law_32 c202_15 (by decide) (by decide) (by decide) (by decide) ?_
      refine V.aload_n (pc := 449) C dL_law_449 1 rfl ?_
      refine V.aload_n (pc := 450) C dL_law_450 0 rfl ?_
      refine V.iload_n (pc := 451) C dL_law_451 3 rfl ?_
      refine V.iconst (pc := 452) C (v := (1 : Int32)) dL_law_452 (by decide) ?_
      refine V.iadd (pc := 453) C dL_law_453 ?_
      obtain ⟨v96, ev96, bv96, hs⟩ := o_lsc hs
      refine V.sld (pc := 454) C X (v := v96) bv96 ev96 dL_law_454 ?_
      obtain ⟨v98, h97, ch97, hs⟩ := o_b2 hs
      refine V.callV (pc := 455) C (o := 0) (rm := rmX4_even) (y := yX4_even) (bytes := cX4_even) (maxL := 3) (ret := (some .int)) (n := 1) (As := [.int v96]) (rest := []) (rv := (some (.int v98))) (h1 := h97) (st0 := [.int v96, .ref 0]) (st2 := [.int v98]) (by decide) rfl rfl (ct_X4_even (kL k) ch97) wf_471 wf_472 wf_473 wf_49 wf_474 rfl rfl (by decide +kernel) ⟨by decide, by decide⟩ rfl (Nat.le_of_ble_eq_true rfl) dL_law_455 rfl rfl ?_
      refine V.aload_n (pc := 458) C dL_law_458 2 rfl ?_
      refine V.aload_n (pc := 459) C dL_law_459 0 rfl ?_
      refine V.iload_n (pc := 460) C dL_law_460 3 rfl ?_
      refine V.iconst (pc := 461) C (v := (1 : Int32)) dL_law_461 (by decide) ?_
      refine V.iadd (pc := 462) C dL_law_462 ?_
      obtain ⟨v99, ev99, bv99, hs⟩ := o_lsc hs
      refine V.sld (pc := 463) C X (v := v99) bv99 ev99 dL_law_463 ?_
      obtain ⟨v101, h100, ch100, hs⟩ := o_b2 hs
      refine V.callV (pc := 464) C (o := 20) (rm := rmX5_even) (y := yX5_even) (bytes := cX5_even) (maxL := 7) (ret := (some .int)) (n := 1) (As := [.int v99]) (rest := [.int v98]) (rv := (some (.int v101))) (h1 := h100) (st0 := [.int v99, .ref 20, .int v98]) (st2 := [.int v101, .int v98]) (by decide) rfl rfl (ct_X5_even (kL k) ch100) wf_843 wf_844 wf_845 wf_54 wf_846 rfl rfl (by decide +kernel) ⟨by decide, by decide⟩ rfl (Nat.le_of_ble_eq_true rfl) dL_law_464 rfl rfl ?_
      refine V.icmp_eq (pc := 467) C (tgt := 813) dL_law_467 (by decide) (fun c102 => ?_) (fun c102 => ?_)
      · have hs := o_if c102 hs
        refine V.sub [0, 1, 2, 3] rfl ?_
        exact tb_LW_813 C T X hK18 _ _ hs
      · have hs := o_el c102 hs
        refine V.iconst (pc := 470) C (v := (0 : Int32)) dL_law_470 (by decide) ?_
        exact V.lawret (pc := 471) C T hs dL_law_471
    have hs := o_el c202_15 hs
    by_cases c202_16 : (v2 &&& (31 : Int32)) = (16 : Int32)
    · have hs := o_if c202_16 hs
      refine V.tin (pc := 32) C (tgt := 472) (off := 440) dL_law_32 c202_16 (by decide) (by decide) (by decide) (by decide) ?_
      refine V.aload_n (pc := 472) C dL_law_472 1 rfl ?_
      refine V.aload_n (pc := 473) C dL_law_473 0 rfl ?_
      refine V.iload_n (pc := 474) C dL_law_474 3 rfl ?_
      refine V.iconst (pc := 475) C (v := (1 : Int32)) dL_law_475 (by decide) ?_
      refine V.iadd (pc := 476) C dL_law_476 ?_
      obtain ⟨v103, ev103, bv103, hs⟩ := o_lsc hs
      refine V.sld (pc := 477) C X (v := v103) bv103 ev103 dL_law_477 ?_
      refine V.aload_n (pc := 478) C dL_law_478 0 rfl ?_
      refine V.iload_n (pc := 479) C dL_law_479 3 rfl ?_
      refine V.iconst (pc := 480) C (v := (2 : Int32)) dL_law_480 (by decide) ?_
      refine V.iadd (pc := 481) C dL_law_481 ?_
      obtain ⟨v104, ev104, bv104, hs⟩ := o_lsc hs
      refine V.sld (pc := 482) C X (v := v104) bv104 ev104 dL_law_482 ?_
      obtain ⟨v106, h105, ch105, hs⟩ := o_b2 hs
      refine V.callV (pc := 483) C (o := 0) (rm := rmX4_kept) (y := yX4_kept) (bytes := cX4_kept) (maxL := 4) (ret := (some .int)) (n := 2) (As := [.int v103, .int v104]) (rest := []) (rv := (some (.int v106))) (h1 := h105) (st0 := [.int v104, .int v103, .ref 0]) (st2 := [.int v106]) (by decide) rfl rfl (ct_X4_kept (kL k) ch105) wf_476 wf_477 wf_478 wf_49 wf_479 rfl rfl (by decide +kernel) ⟨by decide, by decide⟩ rfl (Nat.le_of_ble_eq_true rfl) dL_law_483 rfl rfl ?_
      refine V.aload_n (pc := 486) C dL_law_486 2 rfl ?_
      refine V.aload_n (pc := 487) C dL_law_487 0 rfl ?_
      refine V.iload_n (pc := 488) C dL_law_488 3 rfl ?_
      refine V.iconst (pc := 489) C (v := (1 : Int32)) dL_law_489 (by decide) ?_
      refine V.iadd (pc := 490) C dL_law_490 ?_
      obtain ⟨v107, ev107, bv107, hs⟩ := o_lsc hs
      refine V.sld (pc := 491) C X (v := v107) bv107 ev107 dL_law_491 ?_
      refine V.aload_n (pc := 492) C dL_law_492 0 rfl ?_
      refine V.iload_n (pc := 493) C dL_law_493 3 rfl ?_
      refine V.iconst (pc := 494) C (v := (2 : Int32)) dL_law_494 (by decide) ?_
      refine V.iadd (pc := 495) C dL_law_495 ?_
      obtain ⟨v108, ev108, bv108, hs⟩ := o_lsc hs
      refine V.sld (pc := 496) C X (v := v108) bv108 ev108 dL_law_496 ?_
      obtain ⟨v110, h109, ch109, hs⟩ := o_b2 hs
      refine V.callV (pc := 497) C (o := 20) (rm := rmX5_kept) (y := yX5_kept) (bytes := cX5_kept) (maxL := 4) (ret := (some .int)) (n := 2) (As := [.int v107, .int v108]) (rest := [.int v106]) (rv := (some (.int v110))) (h1 := h109) (st0 := [.int v108, .int v107, .ref 20, .int v106]) (st2 := [.int v110, .int v106]) (by decide) rfl rfl (ct_X5_kept (kL k) ch109) wf_851 wf_852 wf_853 wf_54 wf_854 rfl rfl (by decide +kernel) ⟨by decide, by decide⟩ rfl (Nat.le_of_ble_eq_true rfl) dL_law_497 rfl rfl ?_
      refine V.icmp_eq (pc := 500) C (tgt := 813) dL_law_500 (by decide) (fun c111 => ?_) (fun c111 => ?_)
      · have hs := o_if c111 hs
        refine V.sub [0, 1, 2, 3] rfl ?_
        exact tb_LW_813 C T X hK18 _ _ hs
      · have hs := o_el c111 hs
        refine V.iconst (pc := 503) C (v := (0 : Int32)) dL_law_503 (by decide) ?_
        exact V.lawret (pc := 504) C T hs dL_law_504
    have hs := o_el c202_16 hs
    by_cases c202_17 : (v2 &&& (31 : Int32)) = (17 : Int32)
    · have hs := o_if c202_17 hs
      refine V.tin (pc := 32) C (tgt := 505) (off := 473) dL_law_32 c202_17 (by decide) (by decide) (by decide) (by decide) ?_
      refine V.aload_n (pc := 505) C dL_law_505 1 rfl ?_
      refine V.aload_n (pc := 506) C dL_law_506 0 rfl ?_
      refine V.iload_n (pc := 507) C dL_law_507 3 rfl ?_
      refine V.iconst (pc := 508) C (v := (1 : Int32)) dL_law_508 (by decide) ?_
      refine V.iadd (pc := 509) C dL_law_509 ?_
      obtain ⟨v112, ev112, bv112, hs⟩ := o_lsc hs
      refine V.sld (pc := 510) C X (v := v112) bv112 ev112 dL_law_510 ?_
      refine V.aload_n (pc := 511) C dL_law_511 0 rfl ?_
      refine V.iload_n (pc := 512) C dL_law_512 3 rfl ?_
      refine V.iconst (pc := 513) C (v := (2 : Int32)) dL_law_513 (by decide) ?_
      refine V.iadd (pc := 514) C dL_law_514 ?_
      obtain ⟨v113, ev113, bv113, hs⟩ := o_lsc hs
      refine V.sld (pc := 515) C X (v := v113) bv113 ev113 dL_law_515 ?_
      obtain ⟨v115, h114, ch114, hs⟩ := o_b2 hs
      refine V.callV (pc := 516) C (o := 0) (rm := rmX4_telegram) (y := yX4_telegram) (bytes := cX4_telegram) (maxL := 4) (ret := (some .int)) (n := 2) (As := [.int v112, .int v113]) (rest := []) (rv := (some (.int v115))) (h1 := h114) (st0 := [.int v113, .int v112, .ref 0]) (st2 := [.int v115]) (by decide) rfl rfl (ct_X4_telegram (kL k) ch114) wf_490 wf_491 wf_492 wf_49 wf_493 rfl rfl (by decide +kernel) ⟨by decide, by decide⟩ rfl (Nat.le_of_ble_eq_true rfl) dL_law_516 rfl rfl ?_
      refine V.aload_n (pc := 519) C dL_law_519 2 rfl ?_
      refine V.aload_n (pc := 520) C dL_law_520 0 rfl ?_
      refine V.iload_n (pc := 521) C dL_law_521 3 rfl ?_
      refine V.iconst (pc := 522) C (v := (1 : Int32)) dL_law_522 (by decide) ?_
      refine V.iadd (pc := 523) C dL_law_523 ?_
      obtain ⟨v116, ev116, bv116, hs⟩ := o_lsc hs
      refine V.sld (pc := 524) C X (v := v116) bv116 ev116 dL_law_524 ?_
      refine V.aload_n (pc := 525) C dL_law_525 0 rfl ?_
      refine V.iload_n (pc := 526) C dL_law_526 3 rfl ?_
      refine V.iconst (pc := 527) C (v := (2 : Int32)) dL_law_527 (by decide) ?_
      refine V.iadd (pc := 528) C dL_law_528 ?_
      obtain ⟨v117, ev117, bv117, hs⟩ := o_lsc hs
      refine V.sld (pc := 529) C X (v := v117) bv117 ev117 dL_law_529 ?_
      obtain ⟨v119, h118, ch118, hs⟩ := o_b2 hs
      refine V.callV (pc := 530) C (o := 20) (rm := rmX5_telegram) (y := yX5_telegram) (bytes := cX5_telegram) (maxL := 4) (ret := (some .int)) (n := 2) (As := [.int v116, .int v117]) (rest := [.int v115]) (rv := (some (.int v119))) (h1 := h118) (st0 := [.int v117, .int v116, .ref 20, .int v115]) (st2 := [.int v119, .int v115]) (by decide) rfl rfl (ct_X5_telegram (kL k) ch118) wf_863 wf_864 wf_865 wf_54 wf_866 rfl rfl (by decide +kernel) ⟨by decide, by decide⟩ rfl (Nat.le_of_ble_eq_true rfl) dL_law_530 rfl rfl ?_
      refine V.icmp_eq (pc := 533) C (tgt := 813) dL_law_533 (by decide) (fun c120 => ?_) (fun c120 => ?_)
      · have hs := o_if c120 hs
        refine V.sub [0, 1, 2, 3] rfl ?_
        exact tb_LW_813 C T X hK18 _ _ hs
      · have hs := o_el c120 hs
        refine V.iconst (pc := 536) C (v := (0 : Int32)) dL_law_536 (by decide) ?_
        exact V.lawret (pc := 537) C T hs dL_law_537
    have hs := o_el c202_17 hs
    by_cases c202_18 : (v2 &&& (31 : Int32)) = (18 : Int32)
    · have hs := o_if c202_18 hs
      refine V.tin (pc := 32) C (tgt := 538) (off := 506) dL_law_32 c202_18 (by decide) (by decide) (by decide) (by decide) ?_
      refine V.aload_n (pc := 538) C dL_law_538 1 rfl ?_
      refine V.aload_n (pc := 539) C dL_law_539 0 rfl ?_
      refine V.iload_n (pc := 540) C dL_law_540 3 rfl ?_
      refine V.iconst (pc := 541) C (v := (1 : Int32)) dL_law_541 (by decide) ?_
      refine V.iadd (pc := 542) C dL_law_542 ?_
      obtain ⟨v121, ev121, bv121, hs⟩ := o_lsc hs
      refine V.sld (pc := 543) C X (v := v121) bv121 ev121 dL_law_543 ?_
      refine V.aload_n (pc := 544) C dL_law_544 0 rfl ?_
      refine V.iload_n (pc := 545) C dL_law_545 3 rfl ?_
      refine V.iconst (pc := 546) C (v := (2 : Int32)) dL_law_546 (by decide) ?_
      refine V.iadd (pc := 547) C dL_law_547 ?_
      obtain ⟨v122, ev122, bv122, hs⟩ := o_lsc hs
      refine V.sld (pc := 548) C X (v := v122) bv122 ev122 dL_law_548 ?_
      obtain ⟨v124, h123, ch123, hs⟩ := o_b2 hs
      refine V.callV (pc := 549) C (o := 0) (rm := rmX4_begun) (y := yX4_begun) (bytes := cX4_begun) (maxL := 3) (ret := (some .int)) (n := 2) (As := [.int v121, .int v122]) (rest := []) (rv := (some (.int v124))) (h1 := h123) (st0 := [.int v122, .int v121, .ref 0]) (st2 := [.int v124]) (by decide) rfl rfl (ct_X4_begun (kL k) ch123) wf_494 wf_495 wf_496 wf_49 wf_497 rfl rfl (by decide +kernel) ⟨by decide, by decide⟩ rfl (Nat.le_of_ble_eq_true rfl) dL_law_549 rfl rfl ?_
      refine V.aload_n (pc := 552) C dL_law_552 2 rfl ?_
      refine V.aload_n (pc := 553) C dL_law_553 0 rfl ?_
      refine V.iload_n (pc := 554) C dL_law_554 3 rfl ?_
      refine V.iconst (pc := 555) C (v := (1 : Int32)) dL_law_555 (by decide) ?_
      refine V.iadd (pc := 556) C dL_law_556 ?_
      obtain ⟨v125, ev125, bv125, hs⟩ := o_lsc hs
      refine V.sld (pc := 557) C X (v := v125) bv125 ev125 dL_law_557 ?_
      refine V.aload_n (pc := 558) C dL_law_558 0 rfl ?_
      refine V.iload_n (pc := 559) C dL_law_559 3 rfl ?_
      refine V.iconst (pc := 560) C (v := (2 : Int32)) dL_law_560 (by decide) ?_
      refine V.iadd (pc := 561) C dL_law_561 ?_
      obtain ⟨v126, ev126, bv126, hs⟩ := o_lsc hs
      refine V.sld (pc := 562) C X (v := v126) bv126 ev126 dL_law_562 ?_
      obtain ⟨v128, h127, ch127, hs⟩ := o_b2 hs
      refine V.callV (pc := 563) C (o := 20) (rm := rmX5_begun) (y := yX5_begun) (bytes := cX5_begun) (maxL := 3) (ret := (some .int)) (n := 2) (As := [.int v125, .int v126]) (rest := [.int v124]) (rv := (some (.int v128))) (h1 := h127) (st0 := [.int v126, .int v125, .ref 20, .int v124]) (st2 := [.int v128, .int v124]) (by decide) rfl rfl (ct_X5_begun (kL k) ch127) wf_867 wf_868 wf_869 wf_54 wf_870 rfl rfl (by decide +kernel) ⟨by decide, by decide⟩ rfl (Nat.le_of_ble_eq_true rfl) dL_law_563 rfl rfl ?_
      refine V.icmp_eq (pc := 566) C (tgt := 813) dL_law_566 (by decide) (fun c129 => ?_) (fun c129 => ?_)
      · have hs := o_if c129 hs
        refine V.sub [0, 1, 2, 3] rfl ?_
        exact tb_LW_813 C T X hK18 _ _ hs
      · have hs := o_el c129 hs
        refine V.iconst (pc := 569) C (v := (0 : Int32)) dL_law_569 (by decide) ?_
        exact V.lawret (pc := 570) C T hs dL_law_570
    have hs := o_el c202_18 hs
    by_cases c202_19 : (v2 &&& (31 : Int32)) = (19 : Int32)
    · have hs := o_if c202_19 hs
      refine V.tin (pc := 32) C (tgt := 571) (off := 539) dL_law_32 c202_19 (by decide) (by decide) (by decide) (by decide) ?_
      refine V.aload_n (pc := 571) C dL_law_571 1 rfl ?_
      refine V.aload_n (pc := 572) C dL_law_572 0 rfl ?_
      refine V.iload_n (pc := 573) C dL_law_573 3 rfl ?_
      refine V.iconst (pc := 574) C (v := (1 : Int32)) dL_law_574 (by decide) ?_
      refine V.iadd (pc := 575) C dL_law_575 ?_
      obtain ⟨v130, ev130, bv130, hs⟩ := o_lsc hs
      refine V.sld (pc := 576) C X (v := v130) bv130 ev130 dL_law_576 ?_
      refine V.aload_n (pc := 577) C dL_law_577 0 rfl ?_
      refine V.iload_n (pc := 578) C dL_law_578 3 rfl ?_
      refine V.iconst (pc := 579) C (v := (2 : Int32)) dL_law_579 (by decide) ?_
      refine V.iadd (pc := 580) C dL_law_580 ?_
      obtain ⟨v131, ev131, bv131, hs⟩ := o_lsc hs
      refine V.sld (pc := 581) C X (v := v131) bv131 ev131 dL_law_581 ?_
      refine V.aload_n (pc := 582) C dL_law_582 0 rfl ?_
      refine V.iload_n (pc := 583) C dL_law_583 3 rfl ?_
      refine V.iconst (pc := 584) C (v := (3 : Int32)) dL_law_584 (by decide) ?_
      refine V.iadd (pc := 585) C dL_law_585 ?_
      obtain ⟨v132, ev132, bv132, hs⟩ := o_lsc hs
      refine V.sld (pc := 586) C X (v := v132) bv132 ev132 dL_law_586 ?_
      obtain ⟨v134, h133, ch133, hs⟩ := o_b2 hs
      refine V.callV (pc := 587) C (o := 0) (rm := rmX4_odds) (y := yX4_odds) (bytes := cX4_odds) (maxL := 9) (ret := (some .long)) (n := 3) (As := [.int v130, .int v131, .int v132]) (rest := []) (rv := (some (.long v134))) (h1 := h133) (st0 := [.int v132, .int v131, .int v130, .ref 0]) (st2 := [.long v134]) (by decide) rfl rfl (ct_X4_odds (kL k) ch133) wf_502 wf_503 wf_504 wf_49 wf_505 rfl rfl (by decide +kernel) ⟨by decide, by decide⟩ rfl (Nat.le_of_ble_eq_true rfl) dL_law_587 rfl rfl ?_
      refine V.aload_n (pc := 590) C dL_law_590 2 rfl ?_
      refine V.aload_n (pc := 591) C dL_law_591 0 rfl ?_
      refine V.iload_n (pc := 592) C dL_law_592 3 rfl ?_
      refine V.iconst (pc := 593) C (v := (1 : Int32)) dL_law_593 (by decide) ?_
      refine V.iadd (pc := 594) C dL_law_594 ?_
      obtain ⟨v135, ev135, bv135, hs⟩ := o_lsc hs
      refine V.sld (pc := 595) C X (v := v135) bv135 ev135 dL_law_595 ?_
      refine V.aload_n (pc := 596) C dL_law_596 0 rfl ?_
      refine V.iload_n (pc := 597) C dL_law_597 3 rfl ?_
      refine V.iconst (pc := 598) C (v := (2 : Int32)) dL_law_598 (by decide) ?_
      refine V.iadd (pc := 599) C dL_law_599 ?_
      obtain ⟨v136, ev136, bv136, hs⟩ := o_lsc hs
      refine V.sld (pc := 600) C X (v := v136) bv136 ev136 dL_law_600 ?_
      refine V.aload_n (pc := 601) C dL_law_601 0 rfl ?_
      refine V.iload_n (pc := 602) C dL_law_602 3 rfl ?_
      refine V.iconst (pc := 603) C (v := (3 : Int32)) dL_law_603 (by decide) ?_
      refine V.iadd (pc := 604) C dL_law_604 ?_
      obtain ⟨v137, ev137, bv137, hs⟩ := o_lsc hs
      refine V.sld (pc := 605) C X (v := v137) bv137 ev137 dL_law_605 ?_
      obtain ⟨v139, h138, ch138, hs⟩ := o_b2 hs
      refine V.callV (pc := 606) C (o := 20) (rm := rmX5_odds) (y := yX5_odds) (bytes := cX5_odds) (maxL := 15) (ret := (some .long)) (n := 3) (As := [.int v135, .int v136, .int v137]) (rest := [.long v134]) (rv := (some (.long v139))) (h1 := h138) (st0 := [.int v137, .int v136, .int v135, .ref 20, .long v134]) (st2 := [.long v139, .long v134]) (by decide) rfl rfl (ct_X5_odds (kL k) ch138) wf_871 wf_872 wf_873 wf_54 wf_874 rfl rfl (by decide +kernel) ⟨by decide, by decide⟩ rfl (Nat.le_of_ble_eq_true rfl) dL_law_606 rfl rfl ?_
      refine V.lcmp (pc := 609) C dL_law_609 ?_
      refine V.if_eq (pc := 610) C (tgt := 813) dL_law_610 (by decide) (fun c140 => ?_) (fun c140 => ?_)
      · have hs := o_if c140 hs
        refine V.sub [0, 1, 2, 3] rfl ?_
        exact tb_LW_813 C T X hK18 _ _ hs
      · have hs := o_el c140 hs
        refine V.iconst (pc := 613) C (v := (0 : Int32)) dL_law_613 (by decide) ?_
        exact V.lawret (pc := 614) C T hs dL_law_614
    have hs := o_el c202_19 hs
    by_cases c202_20 : (v2 &&& (31 : Int32)) = (20 : Int32)
    · have hs := o_if c202_20 hs
      refine V.tin (pc := 32) C (tgt := 615) (off := 583) dL_law_32 c202_20 (by decide) (by decide) (by decide) (by decide) ?_
      refine V.aload_n (pc := 615) C dL_law_615 1 rfl ?_
      refine V.aload_n (pc := 616) C dL_law_616 0 rfl ?_
      refine V.iload_n (pc := 617) C dL_law_617 3 rfl ?_
      refine V.iconst (pc := 618) C (v := (1 : Int32)) dL_law_618 (by decide) ?_
      refine V.iadd (pc := 619) C dL_law_619 ?_
      obtain ⟨v141, ev141, bv141, hs⟩ := o_lsc hs
      refine V.sld (pc := 620) C X (v := v141) bv141 ev141 dL_law_620 ?_
      refine V.aload_n (pc := 621) C dL_law_621 0 rfl ?_
      refine V.iload_n (pc := 622) C dL_law_622 3 rfl ?_
      refine V.iconst (pc := 623) C (v := (2 : Int32)) dL_law_623 (by decide) ?_
      refine V.iadd (pc := 624) C dL_law_624 ?_
      obtain ⟨v142, ev142, bv142, hs⟩ := o_lsc hs
      refine V.sld (pc := 625) C X (v := v142) bv142 ev142 dL_law_625 ?_
      obtain ⟨v144, h143, ch143, hs⟩ := o_b2 hs
      refine V.callV (pc := 626) C (o := 0) (rm := rmX4_saw) (y := yX4_saw) (bytes := cX4_saw) (maxL := 3) (ret := (some .int)) (n := 2) (As := [.int v141, .int v142]) (rest := []) (rv := (some (.int v144))) (h1 := h143) (st0 := [.int v142, .int v141, .ref 0]) (st2 := [.int v144]) (by decide) rfl rfl (ct_X4_saw (kL k) ch143) wf_516 wf_517 wf_518 wf_49 wf_519 rfl rfl (by decide +kernel) ⟨by decide, by decide⟩ rfl (Nat.le_of_ble_eq_true rfl) dL_law_626 rfl rfl ?_
      refine V.aload_n (pc := 629) C dL_law_629 2 rfl ?_
      refine V.aload_n (pc := 630) C dL_law_630 0 rfl ?_
      refine V.iload_n (pc := 631) C dL_law_631 3 rfl ?_
      refine V.iconst (pc := 632) C (v := (1 : Int32)) dL_law_632 (by decide) ?_
      refine V.iadd (pc := 633) C dL_law_633 ?_
      obtain ⟨v145, ev145, bv145, hs⟩ := o_lsc hs
      refine V.sld (pc := 634) C X (v := v145) bv145 ev145 dL_law_634 ?_
      refine V.aload_n (pc := 635) C dL_law_635 0 rfl ?_
      refine V.iload_n (pc := 636) C dL_law_636 3 rfl ?_
      refine V.iconst (pc := 637) C (v := (2 : Int32)) dL_law_637 (by decide) ?_
      refine V.iadd (pc := 638) C dL_law_638 ?_
      obtain ⟨v146, ev146, bv146, hs⟩ := o_lsc hs
      refine V.sld (pc := 639) C X (v := v146) bv146 ev146 dL_law_639 ?_
      obtain ⟨v148, h147, ch147, hs⟩ := o_b2 hs
      refine V.callV (pc := 640) C (o := 20) (rm := rmX5_saw) (y := yX5_saw) (bytes := cX5_saw) (maxL := 3) (ret := (some .int)) (n := 2) (As := [.int v145, .int v146]) (rest := [.int v144]) (rv := (some (.int v148))) (h1 := h147) (st0 := [.int v146, .int v145, .ref 20, .int v144]) (st2 := [.int v148, .int v144]) (by decide) rfl rfl (ct_X5_saw (kL k) ch147) wf_877 wf_878 wf_879 wf_54 wf_880 rfl rfl (by decide +kernel) ⟨by decide, by decide⟩ rfl (Nat.le_of_ble_eq_true rfl) dL_law_640 rfl rfl ?_
      refine V.icmp_eq (pc := 643) C (tgt := 813) dL_law_643 (by decide) (fun c149 => ?_) (fun c149 => ?_)
      · have hs := o_if c149 hs
        refine V.sub [0, 1, 2, 3] rfl ?_
        exact tb_LW_813 C T X hK18 _ _ hs
      · have hs := o_el c149 hs
        refine V.iconst (pc := 646) C (v := (0 : Int32)) dL_law_646 (by decide) ?_
        exact V.lawret (pc := 647) C T hs dL_law_647
    have hs := o_el c202_20 hs
    by_cases c202_21 : (v2 &&& (31 : Int32)) = (21 : Int32)
    · have hs := o_if c202_21 hs
      refine V.tin (pc := 32) C (tgt := 648) (off := 616) dL_law_32 c202_21 (by decide) (by decide) (by decide) (by decide) ?_
      refine V.aload_n (pc := 648) C dL_law_648 1 rfl ?_
      obtain ⟨v151, h150, ch150, hs⟩ := o_b2 hs
      refine V.callV (pc := 649) C (o := 0) (rm := rmX4_forget) (y := yX4_forget) (bytes := cX4_forget) (maxL := 2) (ret := (some .int)) (n := 0) (As := []) (rest := []) (rv := (some (.int v151))) (h1 := h150) (st0 := [.ref 0]) (st2 := [.int v151]) (by decide) rfl rfl (ct_X4_forget (kL k) ch150) wf_520 wf_521 wf_522 wf_49 wf_523 rfl rfl (by decide +kernel) ⟨by decide, by decide⟩ rfl (Nat.le_of_ble_eq_true rfl) dL_law_649 rfl rfl ?_
      refine V.aload_n (pc := 652) C dL_law_652 2 rfl ?_
      obtain ⟨v153, h152, ch152, hs⟩ := o_b2 hs
      refine V.callV (pc := 653) C (o := 20) (rm := rmX5_forget) (y := yX5_forget) (bytes := cX5_forget) (maxL := 2) (ret := (some .int)) (n := 0) (As := []) (rest := [.int v151]) (rv := (some (.int v153))) (h1 := h152) (st0 := [.ref 20, .int v151]) (st2 := [.int v153, .int v151]) (by decide) rfl rfl (ct_X5_forget (kL k) ch152) wf_881 wf_882 wf_883 wf_54 wf_884 rfl rfl (by decide +kernel) ⟨by decide, by decide⟩ rfl (Nat.le_of_ble_eq_true rfl) dL_law_653 rfl rfl ?_
      refine V.icmp_eq (pc := 656) C (tgt := 813) dL_law_656 (by decide) (fun c154 => ?_) (fun c154 => ?_)
      · have hs := o_if c154 hs
        refine V.sub [0, 1, 2, 3] rfl ?_
        exact tb_LW_813 C T X hK18 _ _ hs
      · have hs := o_el c154 hs
        refine V.iconst (pc := 659) C (v := (0 : Int32)) dL_law_659 (by decide) ?_
        exact V.lawret (pc := 660) C T hs dL_law_660
    have hs := o_el c202_21 hs
    by_cases c202_22 : (v2 &&& (31 : Int32)) = (22 : Int32)
    · have hs := o_if c202_22 hs
      refine V.tin (pc := 32) C (tgt := 661) (off := 629) dL_law_32 c202_22 (by decide) (by decide) (by decide) (by decide) ?_
      refine V.aload_n (pc := 661) C dL_law_661 1 rfl ?_
      obtain ⟨v156, h155, ch155, hs⟩ := o_b2 hs
      refine V.callV (pc := 662) C (o := 0) (rm := rmX4_sizes) (y := yX4_sizes) (bytes := cX4_sizes) (maxL := 3) (ret := (some .int)) (n := 0) (As := []) (rest := []) (rv := (some (.int v156))) (h1 := h155) (st0 := [.ref 0]) (st2 := [.int v156]) (by decide) rfl rfl (ct_X4_sizes (kL k) ch155) wf_524 wf_525 wf_526 wf_49 wf_527 rfl rfl (by decide +kernel) ⟨by decide, by decide⟩ rfl (Nat.le_of_ble_eq_true rfl) dL_law_662 rfl rfl ?_
      refine V.aload_n (pc := 665) C dL_law_665 2 rfl ?_
      obtain ⟨v158, h157, ch157, hs⟩ := o_b2 hs
      refine V.callV (pc := 666) C (o := 20) (rm := rmX5_sizes) (y := yX5_sizes) (bytes := cX5_sizes) (maxL := 5) (ret := (some .int)) (n := 0) (As := []) (rest := [.int v156]) (rv := (some (.int v158))) (h1 := h157) (st0 := [.ref 20, .int v156]) (st2 := [.int v158, .int v156]) (by decide) rfl rfl (ct_X5_sizes (kL k) ch157) wf_885 wf_886 wf_887 wf_54 wf_888 rfl rfl (by decide +kernel) ⟨by decide, by decide⟩ rfl (Nat.le_of_ble_eq_true rfl) dL_law_666 rfl rfl ?_
      refine V.icmp_eq (pc := 669) C (tgt := 813) dL_law_669 (by decide) (fun c159 => ?_) (fun c159 => ?_)
      · have hs := o_if c159 hs
        refine V.sub [0, 1, 2, 3] rfl ?_
        exact tb_LW_813 C T X hK18 _ _ hs
      · have hs := o_el c159 hs
        refine V.iconst (pc := 672) C (v := (0 : Int32)) dL_law_672 (by decide) ?_
        exact V.lawret (pc := 673) C T hs dL_law_673
    have hs := o_el c202_22 hs
    by_cases c202_23 : (v2 &&& (31 : Int32)) = (23 : Int32)
    · have hs := o_if c202_23 hs
      refine V.tin (pc := 32) C (tgt := 674) (off := 642) dL_law_32 c202_23 (by decide) (by decide) (by decide) (by decide) ?_
      refine V.aload_n (pc := 674) C dL_law_674 1 rfl ?_
      refine V.aload_n (pc := 675) C dL_law_675 0 rfl ?_
      refine V.iload_n (pc := 676) C dL_law_676 3 rfl ?_
      refine V.iconst (pc := 677) C (v := (1 : Int32)) dL_law_677 (by decide) ?_
      refine V.iadd (pc := 678) C dL_law_678 ?_
      obtain ⟨v160, ev160, bv160, hs⟩ := o_lsc hs
      refine V.sld (pc := 679) C X (v := v160) bv160 ev160 dL_law_679 ?_
      obtain ⟨v162, h161, ch161, hs⟩ := o_b2 hs
      refine V.callV (pc := 680) C (o := 0) (rm := rmX4_two) (y := yX4_two) (bytes := cX4_two) (maxL := 5) (ret := (some .int)) (n := 1) (As := [.int v160]) (rest := []) (rv := (some (.int v162))) (h1 := h161) (st0 := [.int v160, .ref 0]) (st2 := [.int v162]) (by decide) rfl rfl (ct_X4_two (kL k) ch161) wf_537 wf_538 wf_539 wf_49 wf_540 rfl rfl (by decide +kernel) ⟨by decide, by decide⟩ rfl (Nat.le_of_ble_eq_true rfl) dL_law_680 rfl rfl ?_
      refine V.aload_n (pc := 683) C dL_law_683 2 rfl ?_
      refine V.aload_n (pc := 684) C dL_law_684 0 rfl ?_
      refine V.iload_n (pc := 685) C dL_law_685 3 rfl ?_
      refine V.iconst (pc := 686) C (v := (1 : Int32)) dL_law_686 (by decide) ?_
      refine V.iadd (pc := 687) C dL_law_687 ?_
      obtain ⟨v163, ev163, bv163, hs⟩ := o_lsc hs
      refine V.sld (pc := 688) C X (v := v163) bv163 ev163 dL_law_688 ?_
      obtain ⟨v165, h164, ch164, hs⟩ := o_b2 hs
      refine V.callV (pc := 689) C (o := 20) (rm := rmX5_two) (y := yX5_two) (bytes := cX5_two) (maxL := 5) (ret := (some .int)) (n := 1) (As := [.int v163]) (rest := [.int v162]) (rv := (some (.int v165))) (h1 := h164) (st0 := [.int v163, .ref 20, .int v162]) (st2 := [.int v165, .int v162]) (by decide) rfl rfl (ct_X5_two (kL k) ch164) wf_889 wf_890 wf_891 wf_54 wf_892 rfl rfl (by decide +kernel) ⟨by decide, by decide⟩ rfl (Nat.le_of_ble_eq_true rfl) dL_law_689 rfl rfl ?_
      refine V.icmp_eq (pc := 692) C (tgt := 813) dL_law_692 (by decide) (fun c166 => ?_) (fun c166 => ?_)
      · have hs := o_if c166 hs
        refine V.sub [0, 1, 2, 3] rfl ?_
        exact tb_LW_813 C T X hK18 _ _ hs
      · have hs := o_el c166 hs
        refine V.iconst (pc := 695) C (v := (0 : Int32)) dL_law_695 (by decide) ?_
        exact V.lawret (pc := 696) C T hs dL_law_696
    have hs := o_el c202_23 hs
    by_cases c202_24 : (v2 &&& (31 : Int32)) = (24 : Int32)
    · have hs := o_if c202_24 hs
      refine V.tin (pc := 32) C (tgt := 697) (off := 665) dL_law_32 c202_24 (by decide) (by decide) (by decide) (by decide) ?_
      refine V.aload_n (pc := 697) C dL_law_697 1 rfl ?_
      refine V.aload_n (pc := 698) C dL_law_698 0 rfl ?_
      refine V.iload_n (pc := 699) C dL_law_699 3 rfl ?_
      refine V.iconst (pc := 700) C (v := (1 : Int32)) dL_law_700 (by decide) ?_
      refine V.iadd (pc := 701) C dL_law_701 ?_
      obtain ⟨v167, ev167, bv167, hs⟩ := o_lsc hs
      refine V.sld (pc := 702) C X (v := v167) bv167 ev167 dL_law_702 ?_
      refine V.aload_n (pc := 703) C dL_law_703 0 rfl ?_
      refine V.iload_n (pc := 704) C dL_law_704 3 rfl ?_
      refine V.iconst (pc := 705) C (v := (2 : Int32)) dL_law_705 (by decide) ?_
      refine V.iadd (pc := 706) C dL_law_706 ?_
      obtain ⟨v168, ev168, bv168, hs⟩ := o_lsc hs
      refine V.sld (pc := 707) C X (v := v168) bv168 ev168 dL_law_707 ?_
      obtain ⟨v170, h169, ch169, hs⟩ := o_b2 hs
      refine V.callV (pc := 708) C (o := 0) (rm := rmX4_mark) (y := yX4_mark) (bytes := cX4_mark) (maxL := 3) (ret := (some .int)) (n := 2) (As := [.int v167, .int v168]) (rest := []) (rv := (some (.int v170))) (h1 := h169) (st0 := [.int v168, .int v167, .ref 0]) (st2 := [.int v170]) (by decide) rfl rfl (ct_X4_mark (kL k) ch169) wf_541 wf_542 wf_543 wf_49 wf_544 rfl rfl (by decide +kernel) ⟨by decide, by decide⟩ rfl (Nat.le_of_ble_eq_true rfl) dL_law_708 rfl rfl ?_
      refine V.aload_n (pc := 711) C dL_law_711 2 rfl ?_
      refine V.aload_n (pc := 712) C dL_law_712 0 rfl ?_
      refine V.iload_n (pc := 713) C dL_law_713 3 rfl ?_
      refine V.iconst (pc := 714) C (v := (1 : Int32)) dL_law_714 (by decide) ?_
      refine V.iadd (pc := 715) C dL_law_715 ?_
      obtain ⟨v171, ev171, bv171, hs⟩ := o_lsc hs
      refine V.sld (pc := 716) C X (v := v171) bv171 ev171 dL_law_716 ?_
      refine V.aload_n (pc := 717) C dL_law_717 0 rfl ?_
      refine V.iload_n (pc := 718) C dL_law_718 3 rfl ?_
      refine V.iconst (pc := 719) C (v := (2 : Int32)) dL_law_719 (by decide) ?_
      refine V.iadd (pc := 720) C dL_law_720 ?_
      obtain ⟨v172, ev172, bv172, hs⟩ := o_lsc hs
      refine V.sld (pc := 721) C X (v := v172) bv172 ev172 dL_law_721 ?_
      obtain ⟨v174, h173, ch173, hs⟩ := o_b2 hs
      refine V.callV (pc := 722) C (o := 20) (rm := rmX5_mark) (y := yX5_mark) (bytes := cX5_mark) (maxL := 4) (ret := (some .int)) (n := 2) (As := [.int v171, .int v172]) (rest := [.int v170]) (rv := (some (.int v174))) (h1 := h173) (st0 := [.int v172, .int v171, .ref 20, .int v170]) (st2 := [.int v174, .int v170]) (by decide) rfl rfl (ct_X5_mark (kL k) ch173) wf_893 wf_894 wf_895 wf_54 wf_896 rfl rfl (by decide +kernel) ⟨by decide, by decide⟩ rfl (Nat.le_of_ble_eq_true rfl) dL_law_722 rfl rfl ?_
      refine V.icmp_eq (pc := 725) C (tgt := 813) dL_law_725 (by decide) (fun c175 => ?_) (fun c175 => ?_)
      · have hs := o_if c175 hs
        refine V.sub [0, 1, 2, 3] rfl ?_
        exact tb_LW_813 C T X hK18 _ _ hs
      · have hs := o_el c175 hs
        refine V.iconst (pc := 728) C (v := (0 : Int32)) dL_law_728 (by decide) ?_
        exact V.lawret (pc := 729) C T hs dL_law_729
    have hs := o_el c202_24 hs
    by_cases c202_25 : (v2 &&& (31 : Int32)) = (25 : Int32)
    · have hs := o_if c202_25 hs
      refine V.tin (pc := 32) C (tgt := 730) (off := 698) dL_law_32 c202_25 (by decide) (by decide) (by decide) (by decide) ?_
      refine V.aload_n (pc := 730) C dL_law_730 1 rfl ?_
      refine V.aload_n (pc := 731) C dL_law_731 0 rfl ?_
      refine V.iload_n (pc := 732) C dL_law_732 3 rfl ?_
      refine V.iconst (pc := 733) C (v := (1 : Int32)) dL_law_733 (by decide) ?_
      refine V.iadd (pc := 734) C dL_law_734 ?_
      obtain ⟨v176, ev176, bv176, hs⟩ := o_lsc hs
      refine V.sld (pc := 735) C X (v := v176) bv176 ev176 dL_law_735 ?_
      obtain ⟨v178, h177, ch177, hs⟩ := o_b2 hs
      refine V.callV (pc := 736) C (o := 0) (rm := rmX4_keep) (y := yX4_keep) (bytes := cX4_keep) (maxL := 2) (ret := (some .int)) (n := 1) (As := [.int v176]) (rest := []) (rv := (some (.int v178))) (h1 := h177) (st0 := [.int v176, .ref 0]) (st2 := [.int v178]) (by decide) rfl rfl (ct_X4_keep (kL k) ch177) wf_575 wf_576 wf_577 wf_49 wf_578 rfl rfl (by decide +kernel) ⟨by decide, by decide⟩ rfl (Nat.le_of_ble_eq_true rfl) dL_law_736 rfl rfl ?_
      refine V.aload_n (pc := 739) C dL_law_739 2 rfl ?_
      refine V.aload_n (pc := 740) C dL_law_740 0 rfl ?_
      refine V.iload_n (pc := 741) C dL_law_741 3 rfl ?_
      refine V.iconst (pc := 742) C (v := (1 : Int32)) dL_law_742 (by decide) ?_
      refine V.iadd (pc := 743) C dL_law_743 ?_
      obtain ⟨v179, ev179, bv179, hs⟩ := o_lsc hs
      refine V.sld (pc := 744) C X (v := v179) bv179 ev179 dL_law_744 ?_
      obtain ⟨v181, h180, ch180, hs⟩ := o_b2 hs
      refine V.callV (pc := 745) C (o := 20) (rm := rmX5_keep) (y := yX5_keep) (bytes := cX5_keep) (maxL := 2) (ret := (some .int)) (n := 1) (As := [.int v179]) (rest := [.int v178]) (rv := (some (.int v181))) (h1 := h180) (st0 := [.int v179, .ref 20, .int v178]) (st2 := [.int v181, .int v178]) (by decide) rfl rfl (ct_X5_keep (kL k) ch180) wf_903 wf_904 wf_905 wf_54 wf_906 rfl rfl (by decide +kernel) ⟨by decide, by decide⟩ rfl (Nat.le_of_ble_eq_true rfl) dL_law_745 rfl rfl ?_
      refine V.icmp_eq (pc := 748) C (tgt := 813) dL_law_748 (by decide) (fun c182 => ?_) (fun c182 => ?_)
      · have hs := o_if c182 hs
        refine V.sub [0, 1, 2, 3] rfl ?_
        exact tb_LW_813 C T X hK18 _ _ hs
      · have hs := o_el c182 hs
        refine V.iconst (pc := 751) C (v := (0 : Int32)) dL_law_751 (by decide) ?_
        exact V.lawret (pc := 752) C T hs dL_law_752
    have hs := o_el c202_25 hs
    by_cases c202_26 : (v2 &&& (31 : Int32)) = (26 : Int32)
    · have hs := o_if c202_26 hs
      refine V.tin (pc := 32) C (tgt := 753) (off := 721) dL_law_32 c202_26 (by decide) (by decide) (by decide) (by decide) ?_
      refine V.aload_n (pc := 753) C dL_law_753 1 rfl ?_
      refine V.aload_n (pc := 754) C dL_law_754 0 rfl ?_
      refine V.iload_n (pc := 755) C dL_law_755 3 rfl ?_
      refine V.iconst (pc := 756) C (v := (1 : Int32)) dL_law_756 (by decide) ?_
      refine V.iadd (pc := 757) C dL_law_757 ?_
      obtain ⟨v183, ev183, bv183, hs⟩ := o_lsc hs
      refine V.sld (pc := 758) C X (v := v183) bv183 ev183 dL_law_758 ?_
      obtain ⟨v185, h184, ch184, hs⟩ := o_b2 hs
      refine V.callV (pc := 759) C (o := 0) (rm := rmX4_back) (y := yX4_back) (bytes := cX4_back) (maxL := 2) (ret := (some .int)) (n := 1) (As := [.int v183]) (rest := []) (rv := (some (.int v185))) (h1 := h184) (st0 := [.int v183, .ref 0]) (st2 := [.int v185]) (by decide) rfl rfl (ct_X4_back (kL k) ch184) wf_587 wf_588 wf_589 wf_49 wf_590 rfl rfl (by decide +kernel) ⟨by decide, by decide⟩ rfl (Nat.le_of_ble_eq_true rfl) dL_law_759 rfl rfl ?_
      refine V.aload_n (pc := 762) C dL_law_762 2 rfl ?_
      refine V.aload_n (pc := 763) C dL_law_763 0 rfl ?_
      refine V.iload_n (pc := 764) C dL_law_764 3 rfl ?_
      refine V.iconst (pc := 765) C (v := (1 : Int32)) dL_law_765 (by decide) ?_
      refine V.iadd (pc := 766) C dL_law_766 ?_
      obtain ⟨v186, ev186, bv186, hs⟩ := o_lsc hs
      refine V.sld (pc := 767) C X (v := v186) bv186 ev186 dL_law_767 ?_
      obtain ⟨v188, h187, ch187, hs⟩ := o_b2 hs
      refine V.callV (pc := 768) C (o := 20) (rm := rmX5_back) (y := yX5_back) (bytes := cX5_back) (maxL := 2) (ret := (some .int)) (n := 1) (As := [.int v186]) (rest := [.int v185]) (rv := (some (.int v188))) (h1 := h187) (st0 := [.int v186, .ref 20, .int v185]) (st2 := [.int v188, .int v185]) (by decide) rfl rfl (ct_X5_back (kL k) ch187) wf_911 wf_912 wf_913 wf_54 wf_914 rfl rfl (by decide +kernel) ⟨by decide, by decide⟩ rfl (Nat.le_of_ble_eq_true rfl) dL_law_768 rfl rfl ?_
      refine V.icmp_eq (pc := 771) C (tgt := 813) dL_law_771 (by decide) (fun c189 => ?_) (fun c189 => ?_)
      · have hs := o_if c189 hs
        refine V.sub [0, 1, 2, 3] rfl ?_
        exact tb_LW_813 C T X hK18 _ _ hs
      · have hs := o_el c189 hs
        refine V.iconst (pc := 774) C (v := (0 : Int32)) dL_law_774 (by decide) ?_
        exact V.lawret (pc := 775) C T hs dL_law_775
    have hs := o_el c202_26 hs
    by_cases c202_27 : (v2 &&& (31 : Int32)) = (27 : Int32)
    · have hs := o_if c202_27 hs
      refine V.tin (pc := 32) C (tgt := 776) (off := 744) dL_law_32 c202_27 (by decide) (by decide) (by decide) (by decide) ?_
      refine V.aload_n (pc := 776) C dL_law_776 1 rfl ?_
      refine V.aload_n (pc := 777) C dL_law_777 0 rfl ?_
      refine V.iload_n (pc := 778) C dL_law_778 3 rfl ?_
      refine V.iconst (pc := 779) C (v := (1 : Int32)) dL_law_779 (by decide) ?_
      refine V.iadd (pc := 780) C dL_law_780 ?_
      obtain ⟨v190, ev190, bv190, hs⟩ := o_lsc hs
      refine V.sld (pc := 781) C X (v := v190) bv190 ev190 dL_law_781 ?_
      obtain ⟨v192, h191, ch191, hs⟩ := o_b2 hs
      refine V.callV (pc := 782) C (o := 0) (rm := rmX4_count) (y := yX4_count) (bytes := cX4_count) (maxL := 2) (ret := (some .int)) (n := 1) (As := [.int v190]) (rest := []) (rv := (some (.int v192))) (h1 := h191) (st0 := [.int v190, .ref 0]) (st2 := [.int v192]) (by decide) rfl rfl (ct_X4_count (kL k) ch191) wf_591 wf_592 wf_593 wf_49 wf_594 rfl rfl (by decide +kernel) ⟨by decide, by decide⟩ rfl (Nat.le_of_ble_eq_true rfl) dL_law_782 rfl rfl ?_
      refine V.aload_n (pc := 785) C dL_law_785 2 rfl ?_
      refine V.aload_n (pc := 786) C dL_law_786 0 rfl ?_
      refine V.iload_n (pc := 787) C dL_law_787 3 rfl ?_
      refine V.iconst (pc := 788) C (v := (1 : Int32)) dL_law_788 (by decide) ?_
      refine V.iadd (pc := 789) C dL_law_789 ?_
      obtain ⟨v193, ev193, bv193, hs⟩ := o_lsc hs
      refine V.sld (pc := 790) C X (v := v193) bv193 ev193 dL_law_790 ?_
      obtain ⟨v195, h194, ch194, hs⟩ := o_b2 hs
      refine V.callV (pc := 791) C (o := 20) (rm := rmX5_count) (y := yX5_count) (bytes := cX5_count) (maxL := 2) (ret := (some .int)) (n := 1) (As := [.int v193]) (rest := [.int v192]) (rv := (some (.int v195))) (h1 := h194) (st0 := [.int v193, .ref 20, .int v192]) (st2 := [.int v195, .int v192]) (by decide) rfl rfl (ct_X5_count (kL k) ch194) wf_915 wf_916 wf_917 wf_54 wf_918 rfl rfl (by decide +kernel) ⟨by decide, by decide⟩ rfl (Nat.le_of_ble_eq_true rfl) dL_law_791 rfl rfl ?_
      refine V.icmp_eq (pc := 794) C (tgt := 813) dL_law_794 (by decide) (fun c196 => ?_) (fun c196 => ?_)
      · have hs := o_if c196 hs
        refine V.sub [0, 1, 2, 3] rfl ?_
        exact tb_LW_813 C T X hK18 _ _ hs
      · have hs := o_el c196 hs
        refine V.iconst (pc := 797) C (v := (0 : Int32)) dL_law_797 (by decide) ?_
        exact V.lawret (pc := 798) C T hs dL_law_798
    have hs := o_el c202_27 hs
    by_cases c202_28 : (v2 &&& (31 : Int32)) = (28 : Int32)
    · have hs := o_if c202_28 hs
      refine V.tin (pc := 32) C (tgt := 799) (off := 767) dL_law_32 c202_28 (by decide) (by decide) (by decide) (by decide) ?_
      refine V.aload_n (pc := 799) C dL_law_799 1 rfl ?_
      obtain ⟨v198, h197, ch197, hs⟩ := o_b2 hs
      refine V.callV (pc := 800) C (o := 0) (rm := rmX4_trace) (y := yX4_trace) (bytes := cX4_trace) (maxL := 1) (ret := (some .long)) (n := 0) (As := []) (rest := []) (rv := (some (.long v198))) (h1 := h197) (st0 := [.ref 0]) (st2 := [.long v198]) (by decide) rfl rfl (ct_X4_trace (kL k) ch197) wf_595 wf_596 wf_597 wf_49 wf_598 rfl rfl (by decide +kernel) ⟨by decide, by decide⟩ rfl (Nat.le_of_ble_eq_true rfl) dL_law_800 rfl rfl ?_
      refine V.aload_n (pc := 803) C dL_law_803 2 rfl ?_
      obtain ⟨v200, h199, ch199, hs⟩ := o_b2 hs
      refine V.callV (pc := 804) C (o := 20) (rm := rmX5_trace) (y := yX5_trace) (bytes := cX5_trace) (maxL := 1) (ret := (some .long)) (n := 0) (As := []) (rest := [.long v198]) (rv := (some (.long v200))) (h1 := h199) (st0 := [.ref 20, .long v198]) (st2 := [.long v200, .long v198]) (by decide) rfl rfl (ct_X5_trace (kL k) ch199) wf_919 wf_920 wf_921 wf_54 wf_922 rfl rfl (by decide +kernel) ⟨by decide, by decide⟩ rfl (Nat.le_of_ble_eq_true rfl) dL_law_804 rfl rfl ?_
      refine V.lcmp (pc := 807) C dL_law_807 ?_
      refine V.if_eq (pc := 808) C (tgt := 813) dL_law_808 (by decide) (fun c201 => ?_) (fun c201 => ?_)
      · have hs := o_if c201 hs
        refine V.sub [0, 1, 2, 3] rfl ?_
        exact tb_LW_813 C T X hK18 _ _ hs
      · have hs := o_el c201 hs
        refine V.iconst (pc := 811) C (v := (0 : Int32)) dL_law_811 (by decide) ?_
        exact V.lawret (pc := 812) C T hs dL_law_812
    have hs := o_el c202_28 hs
    have ic202_0 : ((v2 &&& (31 : Int32))).toInt ≠ 0 := fun z => c202_0 (Int32.toInt_inj.mp z)
    have ic202_1 : ((v2 &&& (31 : Int32))).toInt ≠ 1 := fun z => c202_1 (Int32.toInt_inj.mp z)
    have ic202_2 : ((v2 &&& (31 : Int32))).toInt ≠ 2 := fun z => c202_2 (Int32.toInt_inj.mp z)
    have ic202_3 : ((v2 &&& (31 : Int32))).toInt ≠ 3 := fun z => c202_3 (Int32.toInt_inj.mp z)
    have ic202_4 : ((v2 &&& (31 : Int32))).toInt ≠ 4 := fun z => c202_4 (Int32.toInt_inj.mp z)
    have ic202_5 : ((v2 &&& (31 : Int32))).toInt ≠ 5 := fun z => c202_5 (Int32.toInt_inj.mp z)
    have ic202_6 : ((v2 &&& (31 : Int32))).toInt ≠ 6 := fun z => c202_6 (Int32.toInt_inj.mp z)
    have ic202_7 : ((v2 &&& (31 : Int32))).toInt ≠ 7 := fun z => c202_7 (Int32.toInt_inj.mp z)
    have ic202_8 : ((v2 &&& (31 : Int32))).toInt ≠ 8 := fun z => c202_8 (Int32.toInt_inj.mp z)
    have ic202_9 : ((v2 &&& (31 : Int32))).toInt ≠ 9 := fun z => c202_9 (Int32.toInt_inj.mp z)
    have ic202_10 : ((v2 &&& (31 : Int32))).toInt ≠ 10 := fun z => c202_10 (Int32.toInt_inj.mp z)
    have ic202_11 : ((v2 &&& (31 : Int32))).toInt ≠ 11 := fun z => c202_11 (Int32.toInt_inj.mp z)
    have ic202_12 : ((v2 &&& (31 : Int32))).toInt ≠ 12 := fun z => c202_12 (Int32.toInt_inj.mp z)
    have ic202_13 : ((v2 &&& (31 : Int32))).toInt ≠ 13 := fun z => c202_13 (Int32.toInt_inj.mp z)
    have ic202_14 : ((v2 &&& (31 : Int32))).toInt ≠ 14 := fun z => c202_14 (Int32.toInt_inj.mp z)
    have ic202_15 : ((v2 &&& (31 : Int32))).toInt ≠ 15 := fun z => c202_15 (Int32.toInt_inj.mp z)
    have ic202_16 : ((v2 &&& (31 : Int32))).toInt ≠ 16 := fun z => c202_16 (Int32.toInt_inj.mp z)
    have ic202_17 : ((v2 &&& (31 : Int32))).toInt ≠ 17 := fun z => c202_17 (Int32.toInt_inj.mp z)
    have ic202_18 : ((v2 &&& (31 : Int32))).toInt ≠ 18 := fun z => c202_18 (Int32.toInt_inj.mp z)
    have ic202_19 : ((v2 &&& (31 : Int32))).toInt ≠ 19 := fun z => c202_19 (Int32.toInt_inj.mp z)
    have ic202_20 : ((v2 &&& (31 : Int32))).toInt ≠ 20 := fun z => c202_20 (Int32.toInt_inj.mp z)
    have ic202_21 : ((v2 &&& (31 : Int32))).toInt ≠ 21 := fun z => c202_21 (Int32.toInt_inj.mp z)
    have ic202_22 : ((v2 &&& (31 : Int32))).toInt ≠ 22 := fun z => c202_22 (Int32.toInt_inj.mp z)
    have ic202_23 : ((v2 &&& (31 : Int32))).toInt ≠ 23 := fun z => c202_23 (Int32.toInt_inj.mp z)
    have ic202_24 : ((v2 &&& (31 : Int32))).toInt ≠ 24 := fun z => c202_24 (Int32.toInt_inj.mp z)
    have ic202_25 : ((v2 &&& (31 : Int32))).toInt ≠ 25 := fun z => c202_25 (Int32.toInt_inj.mp z)
    have ic202_26 : ((v2 &&& (31 : Int32))).toInt ≠ 26 := fun z => c202_26 (Int32.toInt_inj.mp z)
    have ic202_27 : ((v2 &&& (31 : Int32))).toInt ≠ 27 := fun z => c202_27 (Int32.toInt_inj.mp z)
    have ic202_28 : ((v2 &&& (31 : Int32))).toInt ≠ 28 := fun z => c202_28 (Int32.toInt_inj.mp z)
    refine V.tout (pc := 32) C (tgt := 813) dL_law_32 (by omega) (by decide) ?_
    refine V.sub [0, 1, 2, 3] rfl ?_
    exact tb_LW_813 C T X hK18 _ _ hs
theorem tl_LW_18 {k : KX} {xs : Nat → Int32} {L : Nat} (C : Cx k cL_law RL 4 room_1) {hf : Hp} (T : Lt k) (X : Lx k xs L) : ∀ (n : Nat) (x3 : Int32) (h : Hp), LW_l18 xs L n x3 h = some ((1 : Int32), hf) → V k room_1 4 18 [(0, .ref 34), (1, .ref 0), (2, .ref 20), (3, .int x3)] [] h := by
  intro n
  induction n with
  | zero => intro x3 h hs; cases hs
  | succ n ih => intro x3 h hs; exact tb_LW_18 C T X ih x3 h hs
