theorem bl_nI (c : Prop) [Decidable c] : ∃ bb, bb ≤ 1 ∧ (if c then (0 : Int32) else 1) = nI bb := by
  by_cases q : c
  · exact ⟨0, by omega, by rw [if_pos q]; rfl⟩
  · exact ⟨1, by omega, by rw [if_neg q]; rfl⟩
theorem ok_breaks : OK X4_breaks X5_breaks := by
  intro h ⟨L, P, Z, wd, q, R⟩
  obtain ⟨n, l, z, b, k, c⟩ := R.cur
  obtain ⟨c1, c2, c3, c4, c5, c6, c7, c8, c9, c10, c11⟩ := id c
  have h6 := R.1.1
  have h10 := R.1.2.1
  unfold X4_breaks X5_breaks
  rw [canWrite_eq R c, b2_some]
  by_cases a : n < P ∧ 0 < L
  · have hl : l < L := by omega
    obtain ⟨q0, q0', -, -, -, q4⟩ := R.1.2.2.2.2.2 n a.1
    rw [if_pos a, if_neg (by decide), c6.2, i4, of_eq R.2.1 R.1 a.1 (by omega), b2_some]
    by_cases s0 : q n 4 = 0
    · refine ⟨-2, h, h, by rw [s0, if_pos (by decide)], ?_, L, P, Z, wd, q, R⟩
      rw [isNext_eq R c (HX.rf h), b2_some, if_pos a.1, if_neg (by decide), isLine_eq R.2.2.1 R.1, b2_some]
      by_cases hx : isIx (h.1 27 1 + 1) L
      · rw [if_pos hx, if_neg (by decide), c6.1, of5_eq R.2.2.1 R.1 a.1 (by omega), b2_some, s0, if_pos (by decide)]
      · rw [if_neg hx, if_pos rfl]
    · rw [if_neg (show ¬ nI (q n 4) = (0 : Int32) from nI_ne0 (by omega) (by omega)), c6.2, of_eq R.2.1 R.1 a.1 (by omega), b2_some, c6.2, i0, of_eq R.2.1 R.1 a.1 (by omega), b2_some, pk_sub (by omega)]
      obtain ⟨bb, b1, eb⟩ := bl_nI (h.1 27 2 = nI (wd l))
      unfold X1_putBroken
      rw [blank_eq R c hl, b2_some, eb, c7.2, i1, nI_add]
      by_cases a2 : l + 1 < L
      · rw [wideOf_yes R.2.1 R.1 a2, b2_some, c8, c9.2, nI_add, nI_add, pk_mul, pk_mul]
        by_cases f1 : h.1 27 2 < nI ((bb + q n 4 + 1) * z)
        · refine ⟨-2, h, h, by rw [if_pos f1, b2_some], ?_, L, P, Z, wd, q, R⟩
          rw [isNext_eq R c (HX.rf h), b2_some, if_pos a.1, if_neg (by decide), c7.1, nI_add, isLine_eq R.2.2.1 R.1, b2_some, if_pos ((ix_nIff (by omega)).mpr a2), if_neg (by decide), c6.1, of5_eq R.2.2.1 R.1 a.1 (by omega), b2_some, if_neg (show ¬ nI (q n 4) = nI 0 from nI_ne0 (by omega) (by omega)), c6.1, of5_eq R.2.2.1 R.1 a.1 (by omega), b2_some, blank5_eq R c (HX.rf h) hl, b2_some, eb, c6.1, of5_eq R.2.2.1 R.1 a.1 (by omega), b2_some, c9.1, nI_add, nI_add, pk_mul, show q n 4 + 1 + bb = bb + q n 4 + 1 by omega, if_pos f1]
        · by_cases f2 : nI ((q n 0 - q n 4) * z) ≤ nI (wd (l + 1))
          · obtain ⟨v, ev⟩ : ∃ v : Int32, v = nI (wd (l + 1)) - nI ((q n 0 - q n 4) * z) := ⟨_, rfl⟩
            obtain ⟨g, eg, rg, st⟩ := step_both R c (f := mk5 (nI (n + 1)) (nI (l + 1)) v (nI z) (nI b)) (V5_mk (by omega) (Or.inl a2) c3.1 c3.2 c4)
            have g1 : ∀ j, j < 7 → g.1 12 j = h.1 12 j := rg.2.1
            obtain ⟨x1, g2, eg2, r0, ro, st2⟩ := st (sI (sI (sI g 12 2 (nI (l + 1))) 12 3 v) 12 1 (nI (n + 1))) (fun o ho => by simp only [sI_row, ho, if_false]) rfl rfl (lt5c rfl rfl rfl ((g1 4 (by omega)).trans c9.2) ((g1 5 (by omega)).trans c10.2))
            have cy1 := x1.cdY R.2.2.1 R.1
            have cy : CdY g2 L P Z wd q := cy1.of R.1.1 R.1.2.1 (by rw [ro 22 (by decide)]) (by rw [ro 24 (by decide)]) (by rw [ro 26 (by decide)]) (fun j _ => by rw [ro 23 (by decide)]) (fun j _ => by rw [ro 25 (by decide)])
            refine ⟨v, sI (sI (sI g 12 2 (nI (l + 1))) 12 3 v) 12 1 (nI (n + 1)), sI (sI (sI g2 27 1 (nI (l + 1))) 27 2 v) 27 0 (nI (n + 1)), ?_, ?_, L, P, Z, wd, q, ?_⟩
            · rw [if_neg f1, if_pos f2, eg, bind_some', g1 4 (by omega), g1 2 (by omega), g1 1 (by omega), c9.2, c7.2, c6.2, pk_mul, nI_add, nI_add, ← ev, b2_some]
            · rw [isNext_eq R c x1, b2_some, if_pos a.1, if_neg (by decide), x1.n, c7.1, nI_add, isLine_eq cy1 R.1, b2_some, if_pos ((ix_nIff (by omega)).mpr a2), if_neg (by decide), x1.n, c6.1, of5_eq cy1 R.1 a.1 (by omega), b2_some, if_neg (show ¬ nI (q n 4) = nI 0 from nI_ne0 (by omega) (by omega)), x1.n, c6.1, of5_eq cy1 R.1 a.1 (by omega), b2_some, blank5_eq R c x1 hl, b2_some, eb, x1.n, c6.1, of5_eq cy1 R.1 a.1 (by omega), b2_some, x1.n, x1.n, c9.1, nI_add, nI_add, pk_mul, show q n 4 + 1 + bb = bb + q n 4 + 1 by omega, if_neg f1, x1.n, c7.1, nI_add, ld_nI (by omega) (by omega), bind_some', cy1.2.2.2.1 _ a2, pk_sub (by omega), pk_mul, if_pos f2, eg2, bind_some', r0 1 (by omega), c7.1, nI_add, ld_nI (by omega) (by omega), bind_some', show (sI g2 27 1 (nI (l + 1))).1 23 (l + 1) = g2.1 23 (l + 1) from rfl, cy.2.2.2.1 _ a2, ← ev, r0 0 (by omega), c6.1, nI_add]
            · refine st2 _ (fun o ho => by simp only [sI_row, ho, if_false]) rfl (fun j hj => ?_) (lt5c rfl rfl rfl ((r0 3 (by omega)).trans c9.1) ((r0 4 (by omega)).trans c10.1))
              simp only [sI_row, if_true, upd, show ¬ j = 0 by omega, show ¬ j = 1 by omega, show ¬ j = 2 by omega, if_false]
          · refine ⟨-2, h, h, by rw [if_neg f1, if_neg f2, b2_some], ?_, L, P, Z, wd, q, R⟩
            rw [isNext_eq R c (HX.rf h), b2_some, if_pos a.1, if_neg (by decide), c7.1, nI_add, isLine_eq R.2.2.1 R.1, b2_some, if_pos ((ix_nIff (by omega)).mpr a2), if_neg (by decide), c6.1, of5_eq R.2.2.1 R.1 a.1 (by omega), b2_some, if_neg (show ¬ nI (q n 4) = nI 0 from nI_ne0 (by omega) (by omega)), c6.1, of5_eq R.2.2.1 R.1 a.1 (by omega), b2_some, blank5_eq R c (HX.rf h) hl, b2_some, eb, c6.1, of5_eq R.2.2.1 R.1 a.1 (by omega), b2_some, c9.1, nI_add, nI_add, pk_mul, show q n 4 + 1 + bb = bb + q n 4 + 1 by omega, if_neg f1, c7.1, nI_add, ld_nI (by omega) (by omega), bind_some', R.2.2.1.2.2.2.1 _ a2, pk_sub (by omega), pk_mul, if_neg f2]
      · have hx : ¬ isIx (nI (l + 1)) L := fun z => a2 ((ix_nIff (by omega)).mp z)
        refine ⟨-2, h, h, ?_, ?_, L, P, Z, wd, q, R⟩
        · rw [wideOf_no R.2.1 R.1 hx, b2_some, c9.2, pk_mul]
          have : 1 ≤ (q n 0 - q n 4) * z := Nat.mul_pos (by omega) (by omega)
          have h2 : (q n 0 - q n 4) * z ≤ 12 * 5 := Nat.mul_le_mul (by omega) (by omega)
          rw [if_neg (show ¬ nI ((q n 0 - q n 4) * z) ≤ (0 : Int32) from nI_nle (by omega) (by omega))]
          split <;> rfl
        · rw [isNext_eq R c (HX.rf h), b2_some, if_pos a.1, if_neg (by decide), c7.1, nI_add, isLine_eq R.2.2.1 R.1, b2_some, if_neg hx, if_pos (by decide)]
  · refine ⟨-2, h, h, by rw [if_neg a, if_pos rfl], ?_, L, P, Z, wd, q, R⟩
    rw [isNext_eq R c (HX.rf h), b2_some]
    by_cases a1 : n < P
    · have hx : ¬ isIx (h.1 27 1 + 1) L := by
        unfold isIx
        have : L = 0 := by omega
        omega
      rw [if_pos a1, if_neg (by decide), isLine_eq R.2.2.1 R.1, b2_some, if_neg hx, if_pos rfl]
    · rw [if_neg a1, if_pos rfl]
/-! taking back -/
theorem undo_loop {h : Hp} {m : Nat} (hm : h.1 27 5 = nI m) (h11 : m ≤ 11) : ∀ d i, i + d = 5 → ∀ n, d < n → X5_undo_l24 n (nI i) (sC h 27 (6 + 5 * m) 27 0 i) = some (nI m, sC h 27 (6 + 5 * m) 27 0 5) := by
  intro d
  have r5 : ∀ i, i ≤ 5 → (sC h 27 (6 + 5 * m) 27 0 i).1 27 5 = nI m := fun i hi => by rw [sC_row, if_pos rfl, pk_cpy_out (by omega)]; exact hm
  induction d with
  | zero =>
    intro i hi n hn
    obtain ⟨n, rfl⟩ : ∃ z, n = z + 1 := ⟨n - 1, by omega⟩
    have : i = 5 := by omega
    subst this
    rw [X5_undo_l24_s]
    unfold X5_undo_b24
    rw [if_pos (by decide), r5 5 (by omega)]
  | succ d ih =>
    intro i hi n hn
    obtain ⟨n, rfl⟩ : ∃ z, n = z + 1 := ⟨n - 1, by omega⟩
    rw [X5_undo_l24_s]
    unfold X5_undo_b24
    rw [if_neg (show ¬ (5 : Int32) ≤ nI i from nI_ge (b := 5) (by omega) (by omega)), r5 i (by omega), i6, i5, pk_mul, nI_add, nI_add, ld_nI (by omega) (by omega), bind_some', st_nI (by omega) (by omega), bind_some', i1, nI_add]
    have e1 : (sC h 27 (6 + 5 * m) 27 0 i).1 27 (6 + 5 * m + i) = h.1 27 (6 + 5 * m + i) := by rw [sC_row, if_pos rfl, pk_cpy_out (by omega)]
    have e2 := sC_s h 27 (6 + 5 * m) 27 0 i
    rw [Nat.zero_add] at e2
    rw [e1, e2]
    exact ih (i + 1) (by omega) n (by omega)
theorem HdR.keep {h g : Hp} {L P : Nat} (c : HdR h L P 12 13 0) (kk : Nat) (hk : h.1 12 7 = nI (kk + 1)) (h12 : kk ≤ 11) (e7 : g.1 12 7 = nI kk) (e5 : g.1 27 5 = nI kk) (e1 : ∀ j, j < 5 → g.1 12 (j + 1) = h.1 13 (5 * kk + j)) (e2 : ∀ j, j < 5 → g.1 27 j = h.1 27 (6 + 5 * kk + j)) (e3 : g.1 13 = h.1 13) (e4 : ∀ j, 6 ≤ j → g.1 27 j = h.1 27 j) : HdR g L P 12 13 0 := by
  obtain ⟨a1, a2, k, k1, k2, k3, k4⟩ := c
  have ek : k = kk + 1 := (nI_eq (by omega) (by omega)).mp (k2.symm.trans hk)
  subst ek
  obtain ⟨b1, b2⟩ := k4 kk (by omega)
  refine ⟨fun j hj => ?_, b2.of (fun j hj => ?_), kk, by omega, e7, e5, fun i hi => ?_⟩
  · rw [e1 j hj, Nat.zero_add, e2 j hj, b1 j hj, Nat.zero_add]
  · show g.1 27 (0 + j) = h.1 27 (0 + 6 + 5 * kk + j)
    rw [Nat.zero_add, Nat.zero_add, e2 j hj]
  · obtain ⟨d1, d2⟩ := k4 i (by omega)
    refine ⟨fun j hj => ?_, d2.of (fun j hj => ?_)⟩
    · rw [e3, e4 _ (by omega)]; exact d1 j hj
    · exact e4 _ (by omega)
theorem ok_undo : OK X4_undo X5_undo := by
  intro h ⟨L, P, Z, wd, q, R⟩
  obtain ⟨n, l, z, b, k, c⟩ := R.cur
  obtain ⟨c1, c2, c3, c4, c5, c6, c7, c8, c9, c10, c11⟩ := id c
  unfold X4_undo X5_undo
  rw [c11.1]
  cases k with
  | zero =>
    refine ⟨-2, h, h, by rw [if_pos (by decide)], ?_, L, P, Z, wd, q, R⟩
    rw [c11.2, if_pos (by decide)]
  | succ m =>
    rw [if_neg (show ¬ nI (m + 1) ≤ (0 : Int32) from nI_nle (by omega) (by omega))]
    unfold X1_takeBack
    rw [c11.1, if_neg (show ¬ nI (m + 1) ≤ (0 : Int32) from nI_nle (by omega) (by omega)), nI_pred, i5, i1, i2, i3, i4]
    simp only [pk_mul, nI_add, Nat.mul_comm m 5]
    rw [ld_nI (by omega) (by omega), bind_some', ld_nI (by omega) (by omega), bind_some', ld_nI (by omega) (by omega), bind_some', ld_nI (by omega) (by omega), bind_some', ld_nI (by omega) (by omega), bind_some', b2_some]
    obtain ⟨h1, e1⟩ : ∃ g, g = sI (sI (sI (sI (sI (sI h 12 7 (nI m)) 12 1 (h.1 13 (5 * m))) 12 2 (h.1 13 (5 * m + 1))) 12 3 (h.1 13 (5 * m + 2))) 12 4 (h.1 13 (5 * m + 3))) 12 5 (h.1 13 (5 * m + 4)) := ⟨_, rfl⟩
    have O : ∀ o, o ≠ 12 → h1.1 o = h.1 o := fun o ho => by rw [e1]; simp only [sI_row, ho, if_false]
    have e2 := undo_loop (h := sI h1 27 5 (nI m)) (m := m) rfl (by omega) 5 0 rfl fu (fu_pos (by omega))
    rw [sC_0] at e2
    refine ⟨nI m, h1, sC (sI h1 27 5 (nI m)) 27 (6 + 5 * m) 27 0 5, by rw [e1]; rfl, ?_, L, P, Z, wd, q, ?_⟩
    · rw [show h1.1 27 5 = nI (m + 1) by rw [O 27 (by decide)]; exact c11.2, if_neg (show ¬ nI (m + 1) = (0 : Int32) from nI_ne0 (by omega) (by omega)), ← i1, nI_pred]
      exact e2
    · have S : ∀ o, o ≠ 12 → o ≠ 27 → (sC (sI h1 27 5 (nI m)) 27 (6 + 5 * m) 27 0 5).1 o = h.1 o := fun o q1 q2 => by rw [sC_row, if_neg q2, sI_row, if_neg q2, O o q1]
      have N : (sC (sI h1 27 5 (nI m)) 27 (6 + 5 * m) 27 0 5).1 27 = va_cpy (upd (h.1 27) 5 (nI m)) (upd (h.1 27) 5 (nI m)) (6 + 5 * m) 0 5 := by rw [sC_row, if_pos rfl, sI_row, if_pos rfl, O 27 (by decide)]
      have X : (sC (sI h1 27 5 (nI m)) 27 (6 + 5 * m) 27 0 5).1 12 = h1.1 12 := by rw [sC_row, if_neg (by decide), sI_row, if_neg (by decide)]
      obtain ⟨kk, cx, cy, t, d, i, s, z⟩ := R
      refine ⟨kk, cx.of (fun j _ => by rw [S 4 (by decide) (by decide)]) (S 5 (by decide) (by decide)) (S 6 (by decide) (by decide)), cy.of kk.1 kk.2.1 (by rw [S 22 (by decide) (by decide)]) (by rw [S 24 (by decide) (by decide)]) (by rw [S 26 (by decide) (by decide)]) (fun j _ => by rw [S 23 (by decide) (by decide)]) (fun j _ => by rw [S 25 (by decide) (by decide)]), t.of (by rw [S 1 (by decide) (by decide)]) (by rw [S 20 (by decide) (by decide)]) (S 2 (by decide) (by decide)) (S 21 (by decide) (by decide)), ?_, i.of (by rw [S 0 (by decide) (by decide)]) (S 28 (by decide) (by decide)) (S 14 (by decide) (by decide)) (S 15 (by decide) (by decide)) (S 16 (by decide) (by decide)) (S 17 (by decide) (by decide)) (fun j q1 q2 => by rw [N, pk_cpy_out (by omega), pk_un (by omega)]), s.of (by rw [S 0 (by decide) (by decide)]) (by rw [S 20 (by decide) (by decide)]) (S 18 (by decide) (by decide)) (S 19 (by decide) (by decide)) (S 32 (by decide) (by decide)) (S 33 (by decide) (by decide)), ?_⟩
      · refine d.keep m c11.1 (by omega) ?_ ?_ ?_ ?_ (S 13 (by decide) (by decide)) ?_
        · rw [X, e1]; rfl
        · rw [N, pk_cpy_out (by omega)]; exact pk_us
        · rw [X, e1]
          exact lt5c rfl rfl rfl rfl rfl
        · intro j hj
          rw [N, pk_cpy_in (by omega) (by omega), pk_un (by omega), Nat.sub_zero]
        · intro j hj
          rw [N, pk_cpy_out (by omega), pk_un (by omega)]
      · have e0 : (sC (sI h1 27 5 (nI m)) 27 (6 + 5 * m) 27 0 5).2 = h.2 := by rw [sC_two, sI_two, e1]; rfl
        unfold TrR
        rw [e0]
        exact z
