/-! images -/
theorem HdR.copy {h g : Hp} {L P o a f o2 a2 f2 : Nat} (c : HdR h L P o a f) (e1 : ∀ j, j < 8 → 0 < j → j ≠ 6 → g.1 o2 j = h.1 o j) (e2 : ∀ j, j < 60 → g.1 a2 j = h.1 a j) (e3 : ∀ j, j < 66 → g.1 27 (f2 + j) = h.1 27 (f + j)) : HdR g L P o2 a2 f2 := by
  obtain ⟨c1, c2, k, hk, c3, c4, c5⟩ := c
  refine ⟨fun j hj => by rw [e1 (j + 1) (by omega) (by omega) (by omega), e3 j (by omega)]; exact c1 j hj, c2.of (fun j hj => e3 j (by omega)), k, hk, by rw [e1 7 (by omega) (by omega) (by omega)]; exact c3, by rw [e3 5 (by omega)]; exact c4, fun i hi => ?_⟩
  obtain ⟨d1, d2⟩ := c5 i hi
  have E : ∀ j, j < 5 → g.1 27 (f2 + 6 + 5 * i + j) = h.1 27 (f + 6 + 5 * i + j) := fun j hj => by
    have := e3 (6 + 5 * i + j) (by omega)
    rw [show f2 + 6 + 5 * i + j = f2 + (6 + 5 * i + j) by omega, this, show f + (6 + 5 * i + j) = f + 6 + 5 * i + j by omega]
  exact ⟨fun j hj => by rw [e2 _ (by omega), E j hj]; exact d1 j hj, d2.of E⟩
theorem copy_loop {h : Hp} {a b : Nat} (ha : a + 66 ≤ 198) (hb : b + 66 ≤ 198) (hd : a + 66 ≤ b ∨ b + 66 ≤ a) : ∀ d i, i + d = 66 → ∀ n, d < n → X5_copy_l2 n (nI a) (nI b) (nI i) (sC h 27 a 27 b i) = some (sC h 27 a 27 b 66) := by
  intro d
  induction d with
  | zero =>
    intro i hi n hn
    obtain ⟨n, rfl⟩ : ∃ z, n = z + 1 := ⟨n - 1, by omega⟩
    have : i = 66 := by omega
    subst this
    rw [X5_copy_l2_s]
    unfold X5_copy_b2
    rw [if_pos (by decide)]
  | succ d ih =>
    intro i hi n hn
    obtain ⟨n, rfl⟩ : ∃ z, n = z + 1 := ⟨n - 1, by omega⟩
    rw [X5_copy_l2_s]
    unfold X5_copy_b2
    rw [if_neg (show ¬ (66 : Int32) ≤ nI i from nI_ge (b := 66) (by omega) (by omega)), nI_add, nI_add, ld_nI (by omega) (by omega), bind_some', st_nI (by omega) (by omega), bind_some', i1, nI_add]
    have e1 : (sC h 27 a 27 b i).1 27 (a + i) = h.1 27 (a + i) := by rw [sC_row, if_pos rfl, pk_cpy_out (by omega)]
    rw [e1, sC_s]
    exact ih (i + 1) (by omega) n (by omega)
theorem copy_eq {h : Hp} {a b : Nat} (ha : a + 66 ≤ 198) (hb : b + 66 ≤ 198) (hd : a + 66 ≤ b ∨ b + 66 ≤ a) : X5_copy (nI a) (nI b) h = some (sC h 27 a 27 b 66) := by
  have e := copy_loop (h := h) ha hb hd 66 0 rfl fu (fu_pos (by omega))
  rw [sC_0] at e
  exact e
/-- a hand becomes as another one -/
def bec (h : Hp) (o a p c : Nat) : Hp := sI (sC (sI (sI (sI (sI (sI h o 1 (h.1 p 1)) o 2 (h.1 p 2)) o 3 (h.1 p 3)) o 4 (h.1 p 4)) o 5 (h.1 p 5)) c 0 a 0 60) o 7 (h.1 p 7)
theorem bec_row {h : Hp} {o a p c : Nat} {x : Nat} (h1 : x ≠ o) (h2 : x ≠ a) : (bec h o a p c).1 x = h.1 x := by
  unfold bec
  rw [sI_row, if_neg h1, sC_row, if_neg h2]
  simp only [sI_row, h1, if_false]
theorem bec_o {h : Hp} {o a p c : Nat} (h1 : o ≠ a) : ∀ j, j < 8 → 0 < j → j ≠ 6 → (bec h o a p c).1 o j = h.1 p j := by
  intro j hj j0 j6
  unfold bec
  rw [sI_row, if_pos rfl, sC_row, if_neg h1]
  simp only [sI_row, if_true]
  unfold upd
  have : j = 1 ∨ j = 2 ∨ j = 3 ∨ j = 4 ∨ j = 5 ∨ j = 7 := by omega
  rcases this with rfl | rfl | rfl | rfl | rfl | rfl <;> simp
theorem bec_a {h : Hp} {o a p c : Nat} (h1 : o ≠ a) (h2 : c ≠ o) : ∀ j, j < 60 → (bec h o a p c).1 a j = h.1 c j := by
  intro j hj
  unfold bec
  rw [sI_row, if_neg (fun z => h1 z.symm), sC_row, if_pos rfl, pk_cpy_in (by omega) (by omega), Nat.zero_add, Nat.sub_zero]
  simp only [sI_row, h2, if_false]
theorem bec_two {h : Hp} {o a p c : Nat} : (bec h o a p c).2 = h.2 := rfl
theorem bec_14 (h : Hp) : X1_become_14_12 h = some (bec h 14 15 12 13) := by
  unfold X1_become_14_12
  rw [i0, i60, cpc_nI (by omega) (by omega) (by omega) (by omega), bind_some']
  rfl
theorem bec_16 (h : Hp) : X1_become_16_12 h = some (bec h 16 17 12 13) := by
  unfold X1_become_16_12
  rw [i0, i60, cpc_nI (by omega) (by omega) (by omega) (by omega), bind_some']
  rfl
theorem bec_12a (h : Hp) : X1_become_12_14 h = some (bec h 12 13 14 15) := by
  unfold X1_become_12_14
  rw [i0, i60, cpc_nI (by omega) (by omega) (by omega) (by omega), bind_some']
  rfl
theorem bec_12b (h : Hp) : X1_become_12_16 h = some (bec h 12 13 16 17) := by
  unfold X1_become_12_16
  rw [i0, i60, cpc_nI (by omega) (by omega) (by omega) (by omega), bind_some']
  rfl
theorem in01 {x : Int32} (hx : (0 : Int32) ≤ x ∧ x ≤ 1) : x = 0 ∨ x = 1 := by
  obtain ⟨j, hj, rfl⟩ := ix_of ((ix_iff (x := x) (n := 2) (by omega)).mp (show (0 : Int32) ≤ x ∧ x ≤ nI 2 - 1 from hx)) (by omega)
  have : j = 0 ∨ j = 1 := by omega
  rcases this with rfl | rfl
  · exact Or.inl rfl
  · exact Or.inr rfl
theorem im_or0 : ∀ b0, b0 ≤ 1 → ∀ b1, b1 ≤ 1 → nI (b0 + 2 * b1) ||| ((1 : Int32) <<< ((0 : Int32) &&& 31)) = nI (1 + 2 * b1) := by decide +kernel
theorem im_or1 : ∀ b0, b0 ≤ 1 → ∀ b1, b1 ≤ 1 → nI (b0 + 2 * b1) ||| ((1 : Int32) <<< ((1 : Int32) &&& 31)) = nI (b0 + 2 * 1) := by decide +kernel
theorem im_b0 : ∀ b0, b0 ≤ 1 → ∀ b1, b1 ≤ 1 → (nI (b0 + 2 * b1) >>> ((0 : Int32) &&& 31)) &&& 1 = nI b0 := by decide +kernel
theorem im_b1 : ∀ b0, b0 ≤ 1 → ∀ b1, b1 ≤ 1 → (nI (b0 + 2 * b1) >>> ((1 : Int32) &&& 31)) &&& 1 = nI b1 := by decide +kernel
/-- the parts of the relation that images don't touch -/
theorem Rl.rest {h g : Hp} {L P Z : Nat} {wd : Nat → Nat} {q : Nat → Nat → Nat} (R : Rl h L P Z wd q) (S : ∀ o, o = 1 ∨ o = 2 ∨ o = 4 ∨ o = 5 ∨ o = 6 ∨ o = 18 ∨ o = 19 ∨ o = 20 ∨ o = 21 ∨ o = 22 ∨ o = 23 ∨ o = 24 ∨ o = 25 ∨ o = 26 ∨ o = 32 ∨ o = 33 → g.1 o = h.1 o) (s0 : g.1 0 10 = h.1 0 10) (e2 : g.2 = h.2) (d : HdR g L P 12 13 0) (i : ImR g L P) : Rl g L P Z wd q := by
  obtain ⟨kk, cx, cy, t, -, -, s, z⟩ := R
  refine ⟨kk, cx.of (fun j _ => by rw [S 4 (by omega)]) (S 5 (by omega)) (S 6 (by omega)), cy.of kk.1 kk.2.1 (by rw [S 22 (by omega)]) (by rw [S 24 (by omega)]) (by rw [S 26 (by omega)]) (fun j _ => by rw [S 23 (by omega)]) (fun j _ => by rw [S 25 (by omega)]), t.of (by rw [S 1 (by omega)]) (by rw [S 20 (by omega)]) (S 2 (by omega)) (S 21 (by omega)), d, i, s.of s0 (by rw [S 20 (by omega)]) (S 18 (by omega)) (S 19 (by omega)) (S 32 (by omega)) (S 33 (by omega)), ?_⟩
  unfold TrR
  rw [e2]
  exact z
theorem ok_keep (x : Int32) : OK (X4_keep x) (X5_keep x) := by
  intro h ⟨L, P, Z, wd, q, R⟩
  obtain ⟨n, l, z, b, k, c⟩ := R.cur
  obtain ⟨b0, b1, a1, a2, a3, a4, a5, a6, a7⟩ := R.2.2.2.2.2.1
  have d := R.2.2.2.2.1
  unfold X4_keep X5_keep
  rw [X4_within_eq, b2_some]
  by_cases hx : (0 : Int32) ≤ x ∧ x ≤ 1
  · rw [if_pos hx, if_neg (by decide)]
    rcases in01 hx with rfl | rfl
    · obtain ⟨g, eg⟩ : ∃ g, g = sI (bec h 14 15 12 13) 0 7 (nI (1 + 2 * b1)) := ⟨_, rfl⟩
      have G : ∀ o, o ≠ 0 → o ≠ 14 → o ≠ 15 → g.1 o = h.1 o := fun o q1 q2 q3 => by rw [eg, sI_row, if_neg q1, bec_row q2 q3]
      obtain ⟨g2, eg2⟩ : ∃ g2, g2 = sI (sC g 27 0 27 66 66) 28 0 1 := ⟨_, rfl⟩
      have G2 : ∀ o, o ≠ 27 → o ≠ 28 → g2.1 o = g.1 o := fun o q1 q2 => by rw [eg2, sI_row, if_neg q2, sC_row, if_neg q1]
      have N : g2.1 27 = va_cpy (h.1 27) (h.1 27) 0 66 66 := by rw [eg2, sI_row, if_neg (by decide), sC_row, if_pos rfl, G 27 (by decide) (by decide) (by decide)]
      have i28 : g2.1 28 = upd (h.1 28) 0 1 := by rw [eg2, sI_row, if_pos rfl, sC_row, if_neg (by decide), G 28 (by decide) (by decide) (by decide)]
      refine ⟨nI n, g, g2, ?_, ?_, L, P, Z, wd, q, ?_⟩
      · unfold X4_imageOf
        rw [if_pos rfl, b2_some, if_pos rfl, bec_14, bind_some', show (bec h 14 15 12 13).1 12 1 = nI n by rw [bec_row (by decide) (by decide)]; exact c.2.2.2.2.2.1.2, show (bec h 14 15 12 13).1 0 7 = nI (b0 + 2 * b1) by rw [bec_row (by decide) (by decide)]; exact a3, im_or0 b0 a1 b1 a2, eg]
      · rw [X5_in_eq, b2_some, if_pos hx, if_neg (by decide), show (66 : Int32) * (1 + 0) = nI 66 by decide, i0, copy_eq (by omega) (by omega) (by omega), bind_some', st_nI (by omega) (by omega), bind_some', ← eg2, N, pk_cpy_out (by omega), c.2.2.2.2.2.1.1]
      · refine R.rest (fun o ho => by rw [G2 o (by omega) (by omega), G o (by omega) (by omega) (by omega)]) (by rw [G2 0 (by decide) (by decide), eg, sI_row, if_pos rfl, pk_un (by decide), bec_row (by decide) (by decide)]) (by rw [eg2, eg]; rfl) (d.of (fun j _ _ _ => by rw [G2 12 (by decide) (by decide), G 12 (by decide) (by decide) (by decide)]) (by rw [G2 13 (by decide) (by decide), G 13 (by decide) (by decide) (by decide)]) (fun j q1 q2 => by rw [N, pk_cpy_out (by omega)])) ⟨1, b1, by omega, a2, ?_, ?_, ?_, fun _ => ?_, fun e => ?_⟩
        · rw [G2 0 (by decide) (by decide), eg]; rfl
        · rw [i28]; rfl
        · rw [i28]; exact a5
        · refine d.copy (fun j q1 q2 q3 => ?_) (fun j q1 => ?_) (fun j q1 => ?_)
          · rw [G2 14 (by decide) (by decide), eg, sI_row, if_neg (by decide), bec_o (by decide) j q1 q2 q3]
          · rw [G2 15 (by decide) (by decide), eg, sI_row, if_neg (by decide), bec_a (by decide) (by decide) j q1]
          · rw [N, pk_cpy_in (by omega) (by omega), Nat.add_sub_cancel_left]
        · exact (a7 e).of (fun j _ _ _ => by rw [G2 16 (by decide) (by decide), G 16 (by decide) (by decide) (by decide)]) (by rw [G2 17 (by decide) (by decide), G 17 (by decide) (by decide) (by decide)]) (fun j q1 q2 => by rw [N, pk_cpy_out (by omega)])
    · obtain ⟨g, eg⟩ : ∃ g, g = sI (bec h 16 17 12 13) 0 7 (nI (b0 + 2 * 1)) := ⟨_, rfl⟩
      have G : ∀ o, o ≠ 0 → o ≠ 16 → o ≠ 17 → g.1 o = h.1 o := fun o q1 q2 q3 => by rw [eg, sI_row, if_neg q1, bec_row q2 q3]
      obtain ⟨g2, eg2⟩ : ∃ g2, g2 = sI (sC g 27 0 27 132 66) 28 1 1 := ⟨_, rfl⟩
      have G2 : ∀ o, o ≠ 27 → o ≠ 28 → g2.1 o = g.1 o := fun o q1 q2 => by rw [eg2, sI_row, if_neg q2, sC_row, if_neg q1]
      have N : g2.1 27 = va_cpy (h.1 27) (h.1 27) 0 132 66 := by rw [eg2, sI_row, if_neg (by decide), sC_row, if_pos rfl, G 27 (by decide) (by decide) (by decide)]
      have i28 : g2.1 28 = upd (h.1 28) 1 1 := by rw [eg2, sI_row, if_pos rfl, sC_row, if_neg (by decide), G 28 (by decide) (by decide) (by decide)]
      refine ⟨nI n, g, g2, ?_, ?_, L, P, Z, wd, q, ?_⟩
      · unfold X4_imageOf
        rw [if_neg (by decide), b2_some, if_neg (by decide), if_pos rfl, bec_16, bind_some', show (bec h 16 17 12 13).1 12 1 = nI n by rw [bec_row (by decide) (by decide)]; exact c.2.2.2.2.2.1.2, show (bec h 16 17 12 13).1 0 7 = nI (b0 + 2 * b1) by rw [bec_row (by decide) (by decide)]; exact a3, im_or1 b0 a1 b1 a2, eg]
      · have e28 : st (sC g 27 0 27 132 66) 28 2 1 1 = some g2 := by rw [eg2]; exact st_nI (j := 1) (by omega) (by omega)
        rw [X5_in_eq, b2_some, if_pos hx, if_neg (by decide), show (66 : Int32) * (1 + 1) = nI 132 by decide, i0, copy_eq (by omega) (by omega) (by omega), bind_some', e28, bind_some', N, pk_cpy_out (by omega), c.2.2.2.2.2.1.1]
      · refine R.rest (fun o ho => by rw [G2 o (by omega) (by omega), G o (by omega) (by omega) (by omega)]) (by rw [G2 0 (by decide) (by decide), eg, sI_row, if_pos rfl, pk_un (by decide), bec_row (by decide) (by decide)]) (by rw [eg2, eg]; rfl) (d.of (fun j _ _ _ => by rw [G2 12 (by decide) (by decide), G 12 (by decide) (by decide) (by decide)]) (by rw [G2 13 (by decide) (by decide), G 13 (by decide) (by decide) (by decide)]) (fun j q1 q2 => by rw [N, pk_cpy_out (by omega)])) ⟨b0, 1, a1, by omega, ?_, ?_, ?_, fun e => ?_, fun _ => ?_⟩
        · rw [G2 0 (by decide) (by decide), eg]; rfl
        · rw [i28]; exact a4
        · rw [i28]; rfl
        · exact (a6 e).of (fun j _ _ _ => by rw [G2 14 (by decide) (by decide), G 14 (by decide) (by decide) (by decide)]) (by rw [G2 15 (by decide) (by decide), G 15 (by decide) (by decide) (by decide)]) (fun j q1 q2 => by rw [N, pk_cpy_out (by omega)])
        · refine d.copy (fun j q1 q2 q3 => ?_) (fun j q1 => ?_) (fun j q1 => ?_)
          · rw [G2 16 (by decide) (by decide), eg, sI_row, if_neg (by decide), bec_o (by decide) j q1 q2 q3]
          · rw [G2 17 (by decide) (by decide), eg, sI_row, if_neg (by decide), bec_a (by decide) (by decide) j q1]
          · rw [N, pk_cpy_in (by omega) (by omega), Nat.add_sub_cancel_left]
  · refine ⟨-1, h, h, by rw [if_neg hx, if_pos rfl], ?_, L, P, Z, wd, q, R⟩
    rw [X5_in_eq, b2_some, if_neg hx, if_pos rfl]
theorem back_one {h : Hp} {L P Z p a f : Nat} {wd : Nat → Nat} {q : Nat → Nat → Nat} (R : Rl h L P Z wd q) (hp : (p = 14 ∧ a = 15 ∧ f = 66) ∨ (p = 16 ∧ a = 17 ∧ f = 132)) (d : HdR h L P p a f) : Rl (sC (bec h 12 13 p a) 27 f 27 0 66) L P Z wd q ∧ (bec h 12 13 p a).1 12 1 = (sC (bec h 12 13 p a) 27 f 27 0 66).1 27 0 := by
  obtain ⟨g, eg⟩ : ∃ g, g = bec h 12 13 p a := ⟨_, rfl⟩
  have G : ∀ o, o ≠ 12 → o ≠ 13 → g.1 o = h.1 o := fun o q1 q2 => by rw [eg, bec_row q1 q2]
  obtain ⟨g2, eg2⟩ : ∃ g2, g2 = sC g 27 f 27 0 66 := ⟨_, rfl⟩
  have G2 : ∀ o, o ≠ 27 → g2.1 o = g.1 o := fun o q1 => by rw [eg2, sC_row, if_neg q1]
  have N : g2.1 27 = va_cpy (h.1 27) (h.1 27) f 0 66 := by rw [eg2, sC_row, if_pos rfl, G 27 (by decide) (by decide)]
  rw [← eg, ← eg2]
  have D : HdR g2 L P 12 13 0 := by
    refine d.copy (fun j q1 q2 q3 => ?_) (fun j q1 => ?_) (fun j q1 => ?_)
    · rw [G2 12 (by decide), eg, bec_o (by decide) j q1 q2 q3]
    · rw [G2 13 (by decide), eg, bec_a (by decide) (by omega) j q1]
    · rw [N, pk_cpy_in (by omega) (by omega), Nat.zero_add, Nat.sub_zero]
  refine ⟨R.rest (fun o ho => by rw [G2 o (by omega), G o (by omega) (by omega)]) (by rw [G2 0 (by decide), G 0 (by decide) (by decide)]) (by rw [eg2, eg]; rfl) D (R.2.2.2.2.2.1.of (by rw [G2 0 (by decide), G 0 (by decide) (by decide)]) (by rw [G2 28 (by decide), G 28 (by decide) (by decide)]) (by rw [G2 14 (by decide), G 14 (by decide) (by decide)]) (by rw [G2 15 (by decide), G 15 (by decide) (by decide)]) (by rw [G2 16 (by decide), G 16 (by decide) (by decide)]) (by rw [G2 17 (by decide), G 17 (by decide) (by decide)]) (fun j q1 q2 => by rw [N, pk_cpy_out (by omega)])), ?_⟩
  have := D.1 0 (by omega)
  rw [G2 12 (by decide)] at this
  exact this
theorem ok_back (x : Int32) : OK (X4_back x) (X5_back x) := by
  intro h ⟨L, P, Z, wd, q, R⟩
  obtain ⟨b0, b1, a1, a2, a3, a4, a5, a6, a7⟩ := R.2.2.2.2.2.1
  unfold X4_back X5_back
  rw [X4_within_eq, b2_some]
  by_cases hx : (0 : Int32) ≤ x ∧ x ≤ 1
  · rw [if_pos hx, if_neg (by decide), bit_eq, b2_some, a3]
    rcases in01 hx with rfl | rfl
    · rw [im_b0 b0 a1 b1 a2]
      by_cases e : b0 = 0
      · subst e
        refine ⟨-2, h, h, by rw [if_pos (by decide)], ?_, L, P, Z, wd, q, R⟩
        rw [X5_in_eq, b2_some, if_pos hx, if_neg (by decide), i0, ld_nI (by omega) (by omega), bind_some', a4, if_pos (by decide)]
      · have e1 : b0 = 1 := by omega
        subst e1
        obtain ⟨R2, en⟩ := back_one R (Or.inl ⟨rfl, rfl, rfl⟩) (a6 rfl)
        refine ⟨(bec h 12 13 14 15).1 12 1, bec h 12 13 14 15, _, ?_, ?_, L, P, Z, wd, q, R2⟩
        · unfold X4_imageOf
          rw [if_neg (by decide), if_pos rfl, b2_some, if_pos rfl, bec_12a, bind_some']
        · have e28 : (bec h 12 13 14 15).1 28 0 = nI 1 := by rw [bec_row (by decide) (by decide)]; exact a4
          rw [X5_in_eq, b2_some, if_pos hx, if_neg (by decide), show (66 : Int32) * (1 + 0) = nI 66 by decide, i0, ld_nI (by omega) (by omega), bind_some', e28, if_neg (by decide), copy_eq (by omega) (by omega) (by omega), bind_some', ← en]
    · rw [im_b1 b0 a1 b1 a2]
      by_cases e : b1 = 0
      · subst e
        refine ⟨-2, h, h, by rw [if_pos (by decide)], ?_, L, P, Z, wd, q, R⟩
        have e28 : ld h 28 2 1 = some (nI 0) := by rw [← a5]; exact ld_nI (j := 1) (by omega) (by omega)
        rw [X5_in_eq, b2_some, if_pos hx, if_neg (by decide), e28, bind_some', if_pos (by decide)]
      · have e1 : b1 = 1 := by omega
        subst e1
        obtain ⟨R2, en⟩ := back_one R (Or.inr ⟨rfl, rfl, rfl⟩) (a7 rfl)
        refine ⟨(bec h 12 13 16 17).1 12 1, bec h 12 13 16 17, _, ?_, ?_, L, P, Z, wd, q, R2⟩
        · unfold X4_imageOf
          rw [if_neg (by decide), if_neg (by decide), b2_some, if_neg (by decide), if_pos rfl, bec_12b, bind_some']
        · have e28 : ld (bec h 12 13 16 17) 28 2 1 = some (nI 1) := by
            rw [← a5, ← show (bec h 12 13 16 17).1 28 = h.1 28 from bec_row (by decide) (by decide)]
            exact ld_nI (j := 1) (by omega) (by omega)
          rw [X5_in_eq, b2_some, if_pos hx, if_neg (by decide), show (66 : Int32) * (1 + 1) = nI 132 by decide, e28, bind_some', if_neg (by decide), i0, copy_eq (by omega) (by omega) (by omega), bind_some', ← en]
  · refine ⟨-1, h, h, by rw [if_neg hx, if_pos rfl], ?_, L, P, Z, wd, q, R⟩
    rw [X5_in_eq, b2_some, if_neg hx, if_pos rfl]
