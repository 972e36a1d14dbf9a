/-! remembering a step: the class -/
def mm (k : Nat) : Nat := if k < 12 then k else 11
def sh (k : Nat) : Nat := if k < 12 then 0 else 1
theorem mm_lt (k : Nat) : mm k ≤ 11 := by unfold mm; split <;> omega
theorem mm_sh {k : Nat} (h : k ≤ 12) : mm k + sh k = k := by unfold mm sh; split <;> omega
def RemX (h g : Hp) (k : Nat) : Prop :=
  g.1 12 7 = nI (mm k + 1) ∧ (∀ j, j < 7 → g.1 12 j = h.1 12 j) ∧ (∀ i, i < mm k → ∀ j, j < 5 → g.1 13 (5 * i + j) = h.1 13 (5 * (i + sh k) + j)) ∧ (∀ j, j < 5 → g.1 13 (5 * mm k + j) = h.1 12 (j + 1)) ∧ (∀ o, o ≠ 12 → o ≠ 13 → g.1 o = h.1 o) ∧ g.2 = h.2
theorem lt5 {j : Nat} (h : j < 5) : j = 0 ∨ j = 1 ∨ j = 2 ∨ j = 3 ∨ j = 4 := by omega
theorem rem_34 {h : Hp} {k : Nat} (hk : h.1 12 7 = nI k) (h12 : k < 12) : X1_remember_b34 h = some (sI (sI (sI (sI (sI (sI h 13 (5 * k) (h.1 12 1)) 13 (5 * k + 1) (h.1 12 2)) 13 (5 * k + 2) (h.1 12 3)) 13 (5 * k + 3) (h.1 12 4)) 13 (5 * k + 4) (h.1 12 5)) 12 7 (nI (k + 1))) := by
  unfold X1_remember_b34
  rw [hk, i5, i1, i2, i3, i4]
  simp only [pk_mul, nI_add, Nat.mul_comm k 5]
  rw [st_nI (by omega) (by omega), bind_some', st_nI (by omega) (by omega), bind_some', st_nI (by omega) (by omega), bind_some', st_nI (by omega) (by omega), bind_some', st_nI (by omega) (by omega), bind_some']
  have e : (sI (sI (sI (sI (sI h 13 (5 * k) (h.1 12 1)) 13 (5 * k + 1) (h.1 12 2)) 13 (5 * k + 2) (h.1 12 3)) 13 (5 * k + 3) (h.1 12 4)) 13 (5 * k + 4) (h.1 12 5)).1 12 7 = nI k := hk
  show some (sI _ 12 7 ((sI (sI (sI (sI (sI h 13 (5 * k) (h.1 12 1)) 13 (5 * k + 1) (h.1 12 2)) 13 (5 * k + 2) (h.1 12 3)) 13 (5 * k + 3) (h.1 12 4)) 13 (5 * k + 4) (h.1 12 5)).1 12 7 + nI 1)) = _
  rw [e, nI_add]
  rfl
theorem rem_row {h : Hp} {k : Nat} : (sI (sI (sI (sI (sI (sI h 13 (5 * k) (h.1 12 1)) 13 (5 * k + 1) (h.1 12 2)) 13 (5 * k + 2) (h.1 12 3)) 13 (5 * k + 3) (h.1 12 4)) 13 (5 * k + 4) (h.1 12 5)) 12 7 (nI (k + 1))).1 13 = upd (upd (upd (upd (upd (h.1 13) (5 * k) (h.1 12 1)) (5 * k + 1) (h.1 12 2)) (5 * k + 2) (h.1 12 3)) (5 * k + 3) (h.1 12 4)) (5 * k + 4) (h.1 12 5) := by
  simp only [sI_row, if_true, show ¬ (13 : Nat) = 12 by decide, if_false]
theorem remember_X {h : Hp} {k : Nat} (hk : h.1 12 7 = nI k) (h12 : k ≤ 12) : ∃ g, X1_remember h = some g ∧ RemX h g k := by
  unfold X1_remember
  by_cases c : k < 12
  · rw [hk, if_pos (show nI k < (12 : Int32) from nI_lt (b := 12) c (by omega)), rem_34 hk c]
    have em : mm k = k := by unfold mm; rw [if_pos c]
    have es : sh k = 0 := by unfold sh; rw [if_pos c]
    refine ⟨_, rfl, by rw [em]; rfl, fun j hj => ?_, fun i hi j hj => ?_, fun j hj => ?_, fun o h1 h2 => ?_, rfl⟩
    · simp only [sI_row, if_true, show ¬ (12 : Nat) = 13 by decide, if_false, upd, show ¬ j = 7 by omega]
    · rw [em] at hi
      rw [rem_row, es]
      unfold upd
      rw [if_neg (by omega), if_neg (by omega), if_neg (by omega), if_neg (by omega), if_neg (by omega)]
      rfl
    · rw [em, rem_row]
      unfold upd
      rcases lt5 hj with rfl | rfl | rfl | rfl | rfl <;> simp
    · simp only [sI_row, h1, h2, if_false]
  · have c2 : k = 12 := by omega
    subst c2
    rw [hk, if_neg (by decide)]
    have e55 : (11 : Int32) * 5 = nI 55 := by decide
    rw [e55, i5, i0, cpc_nI (by omega) (by omega) (by omega) (by omega), bind_some']
    obtain ⟨g, eg⟩ : ∃ g, g = sC (sI h 12 7 11) 13 5 13 0 55 := ⟨_, rfl⟩
    have g7 : g.1 12 7 = nI 11 := by rw [eg]; rfl
    have gj : ∀ j, j < 7 → g.1 12 j = h.1 12 j := fun j hj => by
      rw [eg, sC_row, if_neg (by decide), sI_row, if_pos rfl]
      unfold upd
      rw [if_neg (by omega)]
    rw [← eg, rem_34 g7 (by omega)]
    refine ⟨_, rfl, rfl, fun j hj => ?_, fun i hi j hj => ?_, fun j hj => ?_, fun o h1 h2 => ?_, by rw [eg]; rfl⟩
    · simp only [sI_row, if_true, show ¬ (12 : Nat) = 13 by decide, if_false, upd, show ¬ j = 7 by omega]
      exact gj j hj
    · have hi2 : i < 11 := hi
      rw [rem_row]
      unfold upd
      rw [if_neg (by omega), if_neg (by omega), if_neg (by omega), if_neg (by omega), if_neg (by omega), eg, sC_row, if_pos rfl, pk_cpy_in (by omega) (by omega)]
      show (sI h 12 7 11).1 13 _ = _
      rw [sI_row, if_neg (by decide), show 5 + (5 * i + j - 0) = 5 * (i + 1) + j by omega]
      rfl
    · rw [rem_row]
      simp only [show mm 12 = 11 from rfl]
      unfold upd
      rcases lt5 hj with rfl | rfl | rfl | rfl | rfl <;> simp [gj]
    · simp only [sI_row, h1, h2, if_false]
      rw [eg, sC_row, if_neg h2, sI_row, if_neg h1]
/-! the reference -/
theorem sC_0 (h : Hp) (a sp b dp : Nat) : sC h a sp b dp 0 = h := by
  refine hp_ext (fun o j => ?_) rfl
  rw [sC_row]
  by_cases e : o = b
  · subst e; rw [if_pos rfl, pk_cpy_out (by omega)]
  · rw [if_neg e]
theorem sC_s (h : Hp) (a sp b dp n : Nat) : sI (sC h a sp b dp n) b (dp + n) (h.1 a (sp + n)) = sC h a sp b dp (n + 1) := by
  refine hp_ext (fun o j => ?_) rfl
  rw [sI_row, sC_row h a sp b dp (n + 1)]
  by_cases e : o = b
  · subst e
    rw [if_pos rfl, if_pos rfl, sC_row, if_pos rfl]
    unfold upd
    by_cases c : j = dp + n
    · rw [if_pos c, pk_cpy_in (by omega) (by omega), c, Nat.add_sub_cancel_left]
    · rw [if_neg c]
      unfold va_cpy
      by_cases c2 : dp ≤ j ∧ j < dp + n
      · rw [if_pos c2, if_pos (by omega)]
      · rw [if_neg c2, if_neg (by omega)]
  · rw [if_neg e, if_neg e, sC_row, if_neg e]
theorem know_55 {h : Hp} {m : Nat} (hm : h.1 27 5 = nI m) (h11 : m ≤ 11) : ∀ d i, i + d = 5 → ∀ n, d < n → X5_know_l55 n (nI i) (sC h 27 0 27 (6 + 5 * m) i) = some (sI (sC h 27 0 27 (6 + 5 * m) 5) 27 5 (nI (m + 1))) := by
  intro d
  have r5 : ∀ i, (sC h 27 0 27 (6 + 5 * m) i).1 27 5 = nI m := fun i => by rw [sC_row, if_pos rfl, pk_cpy_out (by omega)]; exact hm
  induction d with
  | zero =>
    intro i hi n hn
    obtain ⟨n, rfl⟩ : ∃ z, n = z + 1 := ⟨n - 1, by omega⟩
    have : i = 5 := by omega
    subst this
    show X5_know_b55 (X5_know_l55 n) (nI 5) _ = _
    unfold X5_know_b55
    rw [if_pos (by decide), r5, i1, nI_add]
  | succ d ih =>
    intro i hi n hn
    obtain ⟨n, rfl⟩ : ∃ z, n = z + 1 := ⟨n - 1, by omega⟩
    show X5_know_b55 (X5_know_l55 n) (nI i) _ = _
    unfold X5_know_b55
    rw [if_neg (show ¬ (5 : Int32) ≤ nI i from nI_ge (b := 5) (by omega) (by omega)), ld_nI (by omega) (by omega), bind_some', r5, i6, i5, pk_mul, nI_add, nI_add, st_nI (by omega) (by omega), bind_some', i1, nI_add]
    have e1 : (sC h 27 0 27 (6 + 5 * m) i).1 27 i = h.1 27 (0 + i) := by rw [sC_row, if_pos rfl, pk_cpy_out (by omega), Nat.zero_add]
    rw [e1, sC_s]
    exact ih (i + 1) (by omega) n (by omega)
theorem know_13 {h : Hp} (hm : h.1 27 5 = nI 12) : ∀ d i, i + d = 55 → ∀ n, d < n → X5_know_l13 n (nI i) (sC h 27 11 27 6 i) = X5_know_b53 (sI (sC h 27 11 27 6 55) 27 5 (nI 11)) := by
  intro d
  induction d with
  | zero =>
    intro i hi n hn
    obtain ⟨n, rfl⟩ : ∃ z, n = z + 1 := ⟨n - 1, by omega⟩
    have : i = 55 := by omega
    subst this
    show X5_know_b13 (X5_know_l13 n) (nI 55) _ = _
    unfold X5_know_b13
    rw [if_pos (by decide)]
    have e : (sC h 27 11 27 6 55).1 27 5 = nI 12 := by rw [sC_row, if_pos rfl, pk_cpy_out (by omega)]; exact hm
    rw [e]
    rfl
  | succ d ih =>
    intro i hi n hn
    obtain ⟨n, rfl⟩ : ∃ z, n = z + 1 := ⟨n - 1, by omega⟩
    show X5_know_b13 (X5_know_l13 n) (nI i) _ = _
    unfold X5_know_b13
    rw [if_neg (show ¬ (55 : Int32) ≤ nI i from nI_ge (b := 55) (by omega) (by omega)), i11, i6, i1, nI_add, nI_add, nI_add, ld_nI (by omega) (by omega), bind_some', st_nI (by omega) (by omega), bind_some']
    have e1 : (sC h 27 11 27 6 i).1 27 (11 + i) = h.1 27 (11 + i) := by rw [sC_row, if_pos rfl, pk_cpy_out (by omega)]
    rw [e1, sC_s]
    exact ih (i + 1) (by omega) n (by omega)
def KnoY (h g : Hp) (k : Nat) : Prop :=
  g.1 27 5 = nI (mm k + 1) ∧ (∀ j, j < 5 → g.1 27 j = h.1 27 j) ∧ (∀ i, i < mm k → ∀ j, j < 5 → g.1 27 (6 + 5 * i + j) = h.1 27 (6 + 5 * (i + sh k) + j)) ∧ (∀ j, j < 5 → g.1 27 (6 + 5 * mm k + j) = h.1 27 j) ∧ (∀ j, 66 ≤ j → g.1 27 j = h.1 27 j) ∧ (∀ o, o ≠ 27 → g.1 o = h.1 o) ∧ g.2 = h.2
theorem fu_pos {n : Nat} (h : n < 1000000) : n < fu := by rw [fu_eq]; exact h
theorem know_Y {h : Hp} {k : Nat} (hk : h.1 27 5 = nI k) (h12 : k ≤ 12) : ∃ g, X5_know h = some g ∧ KnoY h g k := by
  unfold X5_know
  by_cases c : k < 12
  · have em : mm k = k := by unfold mm; rw [if_pos c]
    have es : sh k = 0 := by unfold sh; rw [if_pos c]
    rw [hk, if_neg (show ¬ nI k = (12 : Int32) from fun e => by have := (nI_eq (a := k) (b := 12) (by omega) (by omega)).mp e; omega)]
    have e := know_55 hk (by omega) 5 0 rfl fu (fu_pos (by omega))
    rw [sC_0] at e
    unfold X5_know_b53
    rw [i0, e]
    have R : (sI (sC h 27 0 27 (6 + 5 * k) 5) 27 5 (nI (k + 1))).1 27 = upd (va_cpy (h.1 27) (h.1 27) 0 (6 + 5 * k) 5) 5 (nI (k + 1)) := by simp only [sI_row, sC_row, if_true]
    refine ⟨_, rfl, ?_, fun j hj => ?_, fun i hi j hj => ?_, fun j hj => ?_, fun j hj => ?_, fun o ho => ?_, rfl⟩
    · rw [R, em]; exact pk_us
    · rw [R, pk_un (by omega), pk_cpy_out (by omega)]
    · rw [em] at hi
      rw [R, es, pk_un (by omega), pk_cpy_out (by omega)]; rfl
    · rw [R, em, pk_un (by omega), pk_cpy_in (by omega) (by omega), show 0 + (6 + 5 * k + j - (6 + 5 * k)) = j by omega]
    · rw [R, pk_un (by omega), pk_cpy_out (by omega)]
    · rw [sI_row, if_neg ho, sC_row, if_neg ho]
  · have c2 : k = 12 := by omega
    subst c2
    rw [hk, if_pos (by decide)]
    have e := know_13 hk 55 0 rfl fu (fu_pos (by omega))
    rw [sC_0] at e
    rw [i0, e]
    obtain ⟨g, eg⟩ : ∃ g, g = sI (sC h 27 11 27 6 55) 27 5 (nI 11) := ⟨_, rfl⟩
    have Rg : g.1 27 = upd (va_cpy (h.1 27) (h.1 27) 11 6 55) 5 (nI 11) := by rw [eg]; simp only [sI_row, sC_row, if_true]
    have Ro : ∀ o, o ≠ 27 → g.1 o = h.1 o := fun o ho => by rw [eg, sI_row, if_neg ho, sC_row, if_neg ho]
    have g5 : g.1 27 5 = nI 11 := by rw [Rg]; exact pk_us
    have e2 := know_55 g5 (by omega) 5 0 rfl fu (fu_pos (by omega))
    rw [sC_0] at e2
    unfold X5_know_b53
    rw [← eg, i0, e2]
    have R : (sI (sC g 27 0 27 (6 + 5 * 11) 5) 27 5 (nI (11 + 1))).1 27 = upd (va_cpy (g.1 27) (g.1 27) 0 (6 + 5 * 11) 5) 5 (nI (11 + 1)) := by simp only [sI_row, sC_row, if_true]
    refine ⟨_, rfl, ?_, fun j hj => ?_, fun i hi j hj => ?_, fun j hj => ?_, fun j hj => ?_, fun o ho => ?_, by rw [eg]; rfl⟩
    · rw [R]; exact pk_us
    · rw [R, pk_un (by omega), pk_cpy_out (by omega), Rg, pk_un (by omega), pk_cpy_out (by omega)]
    · have hi2 : i < 11 := hi
      rw [R, pk_un (by omega), pk_cpy_out (by omega), Rg, pk_un (by omega), pk_cpy_in (by omega) (by omega), show 11 + (6 + 5 * i + j - 6) = 6 + 5 * (i + 1) + j by omega]
      rfl
    · rw [R]
      show upd _ 5 _ (6 + 5 * 11 + j) = _
      rw [pk_un (by omega), pk_cpy_in (by omega) (by omega), show 0 + (6 + 5 * 11 + j - (6 + 5 * 11)) = j by omega, Rg, pk_un (by omega), pk_cpy_out (by omega)]
    · rw [R, pk_un (by omega), pk_cpy_out (by omega), Rg, pk_un (by omega), pk_cpy_out (by omega)]
    · rw [sI_row, if_neg ho, sC_row, if_neg ho, Ro o ho]
/-- a step of writing, on both sides -/
theorem Rl.push {h g h1 g2 h2 : Hp} {L P Z k : Nat} {wd : Nat → Nat} {q : Nat → Nat → Nat} {f : Nat → Int32} (R : Rl h L P Z wd q) (hk : h.1 12 7 = nI k) (h12 : k ≤ 12) (r1 : RemX h g k) (c1 : ∀ o, o ≠ 12 → h1.1 o = g.1 o) (c4 : h1.2 = g.2) (c2 : h1.1 12 7 = g.1 12 7) (c3 : ∀ j, j < 5 → h1.1 12 (j + 1) = f j) (r2 : KnoY h1 g2 k) (d1 : ∀ o, o ≠ 27 → h2.1 o = g2.1 o) (d4 : h2.2 = g2.2) (d2 : ∀ j, 5 ≤ j → h2.1 27 j = g2.1 27 j) (d3 : ∀ j, j < 5 → h2.1 27 j = f j) (v : V5 L P f) : Rl h2 L P Z wd q := by
  obtain ⟨kk, cx, cy, t, ⟨a1, a2, k2, a3, a4, a5, a6⟩, i, n, z⟩ := R
  have ek : k2 = k := by
    have := a4.symm.trans hk
    exact (nI_eq (by omega) (by omega)).mp this
  subst ek
  obtain ⟨p1, p2, p3, p4, p5, p6⟩ := r1
  obtain ⟨s1, s2, s3, s4, s5, s6, s7⟩ := r2
  have S : ∀ o, o ≠ 12 → o ≠ 13 → o ≠ 27 → h2.1 o = h.1 o := fun o q1 q2 q3 => by rw [d1 o q3, s6 o q3, c1 o q1, p5 o q1 q2]
  have h27 : ∀ j, h1.1 27 j = h.1 27 j := fun j => by rw [c1 27 (by decide), p5 27 (by decide) (by decide)]
  have ms := mm_sh h12
  refine ⟨kk, cx.of (fun j _ => by rw [S 4 (by decide) (by decide) (by decide)]) (S 5 (by decide) (by decide) (by decide)) (S 6 (by decide) (by decide) (by decide)), cy.of kk.1 kk.2.1 (by rw [S 22 (by decide) (by decide) (by decide)]) (by rw [S 24 (by decide) (by decide) (by decide)]) (by rw [S 26 (by decide) (by decide) (by decide)]) (fun j _ => by rw [S 23 (by decide) (by decide) (by decide)]) (fun j _ => by rw [S 25 (by decide) (by decide) (by decide)]), t.of (by rw [S 1 (by decide) (by decide) (by decide)]) (by rw [S 20 (by decide) (by decide) (by decide)]) (S 2 (by decide) (by decide) (by decide)) (S 21 (by decide) (by decide) (by decide)), ?_, i.of (by rw [S 0 (by decide) (by decide) (by decide)]) (S 28 (by decide) (by decide) (by decide)) (S 14 (by decide) (by decide) (by decide)) (S 15 (by decide) (by decide) (by decide)) (S 16 (by decide) (by decide) (by decide)) (S 17 (by decide) (by decide) (by decide)) (fun j q1 q2 => by rw [d2 j (by omega), s5 j q1, h27]), n.of (by rw [S 0 (by decide) (by decide) (by decide)]) (by rw [S 20 (by decide) (by decide) (by decide)]) (S 18 (by decide) (by decide) (by decide)) (S 19 (by decide) (by decide) (by decide)) (S 32 (by decide) (by decide) (by decide)) (S 33 (by decide) (by decide) (by decide)), ?_⟩
  · have m11 := mm_lt k2
    have x13 : ∀ j, h2.1 13 j = g.1 13 j := fun j => by rw [d1 13 (by decide), s6 13 (by decide), c1 13 (by decide)]
    have x12 : ∀ j, h2.1 12 j = h1.1 12 j := fun j => by rw [d1 12 (by decide), s6 12 (by decide)]
    refine ⟨fun j hj => ?_, v.of (fun j hj => ?_), mm k2 + 1, by omega, ?_, ?_, fun i hi => ?_⟩
    · rw [x12, c3 j hj, Nat.zero_add, d3 j hj]
    · rw [Nat.zero_add, d3 j hj]
    · rw [x12, c2, p1]
    · show h2.1 27 5 = _
      rw [d2 5 (by omega), s1]
    · by_cases ei : i = mm k2
      · subst ei
        refine ⟨fun j hj => ?_, a2.of (fun j hj => ?_)⟩
        · rw [x13, p4 j hj, a1 j hj]
          show _ = h2.1 27 (0 + 6 + 5 * mm k2 + j)
          rw [Nat.zero_add, Nat.zero_add, d2 _ (by omega), s4 j hj, h27]
        · show h2.1 27 (0 + 6 + 5 * mm k2 + j) = h.1 27 (0 + j)
          rw [Nat.zero_add, Nat.zero_add, d2 _ (by omega), s4 j hj, h27]
      · obtain ⟨b1, b2⟩ := a6 (i + sh k2) (by omega)
        refine ⟨fun j hj => ?_, b2.of (fun j hj => ?_)⟩
        · rw [x13, p3 i (by omega) j hj, b1 j hj]
          show h.1 27 (0 + 6 + 5 * (i + sh k2) + j) = h2.1 27 (0 + 6 + 5 * i + j)
          rw [Nat.zero_add, d2 _ (by omega), s3 i (by omega) j hj, h27]
        · show h2.1 27 (0 + 6 + 5 * i + j) = h.1 27 (0 + 6 + 5 * (i + sh k2) + j)
          rw [Nat.zero_add, d2 _ (by omega), s3 i (by omega) j hj, h27]
  · unfold TrR
    rw [d4, s7, c4, p6]
    exact z
