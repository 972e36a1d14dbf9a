/-! the calls of writing -/
def mk5 (a b c d e : Int32) : Nat → Int32 := fun j => match j with
  | 0 => a
  | 1 => b
  | 2 => c
  | 3 => d
  | _ => e
theorem V5_mk {L P n l z b : Nat} {x : Int32} (h1 : n ≤ P) (h2 : l < L ∨ (L = 0 ∧ l = 0)) (h3 : 1 ≤ z) (h4 : z ≤ 5) (h5 : b < 1024) : V5 L P (mk5 (nI n) (nI l) x (nI z) (nI b)) :=
  ⟨⟨n, h1, rfl⟩, ⟨l, h2, rfl⟩, ⟨z, h3, h4, rfl⟩, b, h5, rfl⟩
/-- where one is, as numbers -/
def Cur (h : Hp) (L P n l z b k : Nat) : Prop := n ≤ P ∧ (l < L ∨ (L = 0 ∧ l = 0)) ∧ (1 ≤ z ∧ z ≤ 5) ∧ b < 1024 ∧ k ≤ 12 ∧ (h.1 27 0 = nI n ∧ h.1 12 1 = nI n) ∧ (h.1 27 1 = nI l ∧ h.1 12 2 = nI l) ∧ h.1 12 3 = h.1 27 2 ∧ (h.1 27 3 = nI z ∧ h.1 12 4 = nI z) ∧ (h.1 27 4 = nI b ∧ h.1 12 5 = nI b) ∧ (h.1 12 7 = nI k ∧ h.1 27 5 = nI k)
theorem Rl.cur {h : Hp} {L P Z : Nat} {wd : Nat → Nat} {q : Nat → Nat → Nat} (R : Rl h L P Z wd q) : ∃ n l z b k, Cur h L P n l z b k := by
  obtain ⟨-, -, -, -, ⟨a1, ⟨⟨n, n1, n2⟩, ⟨l, l1, l2⟩, ⟨z, z1, z2, z3⟩, b, b1, b2⟩, k, k1, k2, k3, -⟩, -⟩ := R
  have e0 := a1 0 (by omega)
  have e1 := a1 1 (by omega)
  have e2 := a1 2 (by omega)
  have e3 := a1 3 (by omega)
  have e4 := a1 4 (by omega)
  exact ⟨n, l, z, b, k, n1, l1, ⟨z1, z2⟩, b1, k1, ⟨n2, e0.trans n2⟩, ⟨l2, e1.trans l2⟩, e2, ⟨z3, e3.trans z3⟩, ⟨b2, e4.trans b2⟩, k2, k3⟩
/-- what a call of the class that writes alone touches -/
def HX (h h1 : Hp) : Prop := (∀ o, o ≠ 12 → o ≠ 13 → h1.1 o = h.1 o) ∧ h1.2 = h.2
theorem HX.cdY {h h1 : Hp} {L P Z : Nat} {wd : Nat → Nat} {q : Nat → Nat → Nat} (x : HX h h1) (c : CdY h L P Z wd q) (k : Cok L P Z wd q) : CdY h1 L P Z wd q :=
  c.of k.1 k.2.1 (by rw [x.1 22 (by decide) (by decide)]) (by rw [x.1 24 (by decide) (by decide)]) (by rw [x.1 26 (by decide) (by decide)]) (fun j _ => by rw [x.1 23 (by decide) (by decide)]) (fun j _ => by rw [x.1 25 (by decide) (by decide)])
theorem HX.n {h h1 : Hp} (x : HX h h1) (j : Nat) : h1.1 27 j = h.1 27 j := by rw [x.1 27 (by decide) (by decide)]
section
variable {h : Hp} {L P Z n l z b k : Nat} {wd : Nat → Nat} {q : Nat → Nat → Nat}
theorem hasNext_eq (R : Rl h L P Z wd q) (c : Cur h L P n l z b k) : X1_hasNext h = some (if n < P then 1 else 0, h) := by
  have h10 := R.1.2.1
  have hn := c.1
  unfold X1_hasNext
  rw [c.2.2.2.2.2.1.2, hasPiece_eq R.2.1 R.1, b2_some, zb_if]
  have e : isIx (nI n) P ↔ n < P := by unfold isIx; rw [nI_toInt (by omega)]; omega
  simp only [e]
theorem canWrite_eq (R : Rl h L P Z wd q) (c : Cur h L P n l z b k) : X1_canWrite h = some (if n < P ∧ 0 < L then 1 else 0, h) := by
  have h6 := R.1.1
  unfold X1_canWrite
  rw [hasNext_eq R c, b2_some]
  by_cases c1 : n < P
  · rw [if_pos c1, if_neg (by decide), R.2.1.1]
    by_cases c2 : 0 < L
    · rw [if_neg (show ¬ nI L ≤ (0 : Int32) from nI_nle c2 (by omega)), if_pos ⟨c1, c2⟩]
    · rw [show L = 0 by omega, if_pos (by decide), if_neg (by omega)]
  · rw [if_neg c1, if_pos rfl, if_neg (fun q => c1 q.1)]
theorem isNext_eq {h1 : Hp} (R : Rl h L P Z wd q) (c : Cur h L P n l z b k) (x : HX h h1) : X5_isNext h1 = some (if n < P then 1 else 0, h1) := by
  have h10 := R.1.2.1
  have hn := c.1
  unfold X5_isNext
  rw [(x.cdY R.2.2.1 R.1).2.1, x.n, c.2.2.2.2.2.1.1]
  by_cases c1 : n < P
  · rw [if_neg (nI_ge c1 (by omega)), if_pos c1]
  · rw [if_pos (nI_le (by omega) (by omega)), if_neg c1]
theorem blank_eq (R : Rl h L P Z wd q) (c : Cur h L P n l z b k) (hl : l < L) : X1_blank h = some (if h.1 27 2 = nI (wd l) then 0 else 1, h) := by
  unfold X1_blank
  rw [c.2.2.2.2.2.2.1.2, wideOf_yes R.2.1 R.1 hl, b2_some, c.2.2.2.2.2.2.2.1]
  split <;> rfl
theorem blank5_eq {h1 : Hp} (R : Rl h L P Z wd q) (c : Cur h L P n l z b k) (x : HX h h1) (hl : l < L) : X5_blank h1 = some (if h.1 27 2 = nI (wd l) then 0 else 1, h1) := by
  have h6 := R.1.1
  unfold X5_blank
  rw [x.n, x.n, c.2.2.2.2.2.2.1.1, ld_nI (by omega) (by omega), bind_some', (x.cdY R.2.2.1 R.1).2.2.2.1 l hl]
  split <;> rfl
end
theorem HX.rf (h : Hp) : HX h h := ⟨fun _ _ _ => rfl, rfl⟩
/-- one steps: the class's part, then the reference's -/
theorem step_both {h : Hp} {L P Z n l z b k : Nat} {wd : Nat → Nat} {q : Nat → Nat → Nat} (R : Rl h L P Z wd q) (c : Cur h L P n l z b k) {f : Nat → Int32} (v : V5 L P f) :
    ∃ g, X1_remember h = some g ∧ RemX h g k ∧ ∀ h1 : Hp, (∀ o, o ≠ 12 → h1.1 o = g.1 o) → h1.2 = g.2 → h1.1 12 7 = g.1 12 7 → (∀ j, j < 5 → h1.1 12 (j + 1) = f j) → HX h h1 ∧
      ∃ g2, X5_know h1 = some g2 ∧ (∀ j, j < 5 → g2.1 27 j = h.1 27 j) ∧ (∀ o, o ≠ 27 → g2.1 o = h1.1 o) ∧ ∀ h2 : Hp, (∀ o, o ≠ 27 → h2.1 o = g2.1 o) → h2.2 = g2.2 → (∀ j, 5 ≤ j → h2.1 27 j = g2.1 27 j) → (∀ j, j < 5 → h2.1 27 j = f j) → Rl h2 L P Z wd q := by
  have hk := c.2.2.2.2.2.2.2.2.2.2
  have h12 := c.2.2.2.2.1
  obtain ⟨g, eg, rg⟩ := remember_X hk.1 h12
  refine ⟨g, eg, rg, fun h1 a1 a2 a3 a4 => ?_⟩
  have x : HX h h1 := ⟨fun o q1 q2 => by rw [a1 o q1, rg.2.2.2.2.1 o q1 q2], by rw [a2, rg.2.2.2.2.2]⟩
  obtain ⟨g2, e2, r2⟩ := know_Y (h := h1) (k := k) (by rw [x.n]; exact hk.2) h12
  refine ⟨x, g2, e2, fun j hj => by rw [r2.2.1 j hj, x.n], r2.2.2.2.2.2.1, fun h2 b1 b2 b3 b4 => ?_⟩
  exact R.push hk.1 h12 rg a1 a2 a3 a4 r2 b1 b2 b3 b4 v
theorem lt5c {p : Nat → Prop} (h0 : p 0) (h1 : p 1) (h2 : p 2) (h3 : p 3) (h4 : p 4) : ∀ j, j < 5 → p j := by
  intro j hj
  rcases lt5 hj with rfl | rfl | rfl | rfl | rfl <;> assumption
theorem ok_put {h : Hp} {L P Z n l z b k : Nat} {wd : Nat → Nat} {q : Nat → Nat → Nat} (R : Rl h L P Z wd q) (c : Cur h L P n l z b k) (hn : n < P) (hl : l < L) (x : Int32) :
    ∃ r h1 h2, X1_put x h = some (r, h1) ∧ HX h h1 ∧ X5_put x h1 = some (r, h2) ∧ Rl h2 L P Z wd q := by
  obtain ⟨c1, c2, c3, c4, c5, c6, c7, c8, c9, c10, c11⟩ := id c
  obtain ⟨bl, ebl⟩ : ∃ v : Int32, v = if h.1 27 2 = nI (wd l) then 0 else 1 := ⟨_, rfl⟩
  unfold X1_put X5_put
  rw [blank_eq R c hl, b2_some, ← ebl, c9.2, c8]
  by_cases fit : (bl + x) * nI z ≤ h.1 27 2
  · obtain ⟨g, eg, rg, st⟩ := step_both R c (f := mk5 (nI (n + 1)) (nI l) (h.1 27 2 - (bl + x) * nI z) (nI z) (nI b)) (V5_mk (by omega) c2 c3.1 c3.2 c4)
    have g1 : ∀ j, j < 7 → g.1 12 j = h.1 12 j := rg.2.1
    rw [if_pos fit, eg, bind_some']
    have e3 : g.1 12 3 = h.1 27 2 := (g1 3 (by omega)).trans c8
    have e1 : g.1 12 1 = nI n := (g1 1 (by omega)).trans c6.2
    rw [e3, e1, i1, nI_add]
    obtain ⟨x1, g2, eg2, r0, ro, st2⟩ := st (sI (sI g 12 3 (h.1 27 2 - (bl + x) * nI z)) 12 1 (nI (n + 1))) (fun o ho => by simp only [sI_row, ho, if_false]) rfl rfl (lt5c rfl ((g1 2 (by omega)).trans c7.2) rfl ((g1 4 (by omega)).trans c9.2) ((g1 5 (by omega)).trans c10.2))
    refine ⟨_, _, sI (sI g2 27 2 (h.1 27 2 - (x + bl) * nI z)) 27 0 (nI (n + 1)), rfl, x1, ?_, ?_⟩
    · rw [blank5_eq R c x1 hl, b2_some, ← ebl, x1.n, x1.n, c9.1, Int32.add_comm x bl, if_pos fit, eg2, bind_some', r0 2 (by omega), r0 0 (by omega), c6.1, nI_add]
    · rw [Int32.add_comm x bl]
      refine st2 _ (fun o ho => by simp only [sI_row, ho, if_false]) rfl (fun j hj => ?_) (lt5c rfl ((r0 1 (by omega)).trans c7.1) rfl ((r0 3 (by omega)).trans c9.1) ((r0 4 (by omega)).trans c10.1))
      simp only [sI_row, if_true, upd, show ¬ j = 0 by omega, show ¬ j = 2 by omega, if_false]
  · rw [if_neg fit]
    refine ⟨_, h, h, rfl, HX.rf h, ?_, R⟩
    rw [blank5_eq R c (HX.rf h) hl, b2_some, ← ebl, c9.1, Int32.add_comm x bl, if_neg fit]
theorem ok_writes : OK X4_writes X5_writes := by
  intro h ⟨L, P, Z, wd, q, R⟩
  obtain ⟨n, l, z, b, k, c⟩ := R.cur
  have h6 := R.1.1
  unfold X4_writes X5_writes
  rw [canWrite_eq R c, b2_some]
  by_cases a : n < P ∧ 0 < L
  · have hl : l < L := by have := c.2.1; omega
    obtain ⟨r, h1, h2, e1, x, e2, R2⟩ := ok_put R c a.1 hl (nI (q n 0))
    refine ⟨r, h1, h2, ?_, ?_, L, P, Z, wd, q, R2⟩
    · rw [if_pos a, if_neg (by decide), c.2.2.2.2.2.1.2, i0, of_eq R.2.1 R.1 a.1 (by omega), b2_some, e1, b2_some]
    · rw [isNext_eq R c x, b2_some, if_pos a.1, if_neg (by decide), (x.cdY R.2.2.1 R.1).1, if_neg (show ¬ nI L ≤ (0 : Int32) from nI_nle a.2 (by omega)), x.n, c.2.2.2.2.2.1.1, i0, of5_eq (x.cdY R.2.2.1 R.1) R.1 a.1 (by omega), b2_some, e2, b2_some]
  · refine ⟨-2, h, h, by rw [if_neg a, if_pos rfl], ?_, L, P, Z, wd, q, R⟩
    rw [isNext_eq R c (HX.rf h), b2_some]
    by_cases a1 : n < P
    · rw [if_pos a1, if_neg (by decide), R.2.2.1.1, show L = 0 by omega, if_pos (by decide)]
    · rw [if_neg a1, if_pos rfl]
theorem ok_signs : OK X4_signs X5_signs := by
  intro h ⟨L, P, Z, wd, q, R⟩
  obtain ⟨n, l, z, b, k, c⟩ := R.cur
  have h6 := R.1.1
  unfold X4_signs X5_signs
  rw [canWrite_eq R c, b2_some]
  by_cases a : n < P ∧ 0 < L
  · have hl : l < L := by have := c.2.1; omega
    have hq := (R.1.2.2.2.2.2 n a.1).2.2.2.2.1
    by_cases s0 : q n 3 = 0
    · refine ⟨-2, h, h, ?_, ?_, L, P, Z, wd, q, R⟩
      · rw [if_pos a, if_neg (by decide), c.2.2.2.2.2.1.2, i3, of_eq R.2.1 R.1 a.1 (by omega), b2_some, s0, if_pos (by decide)]
      · rw [isNext_eq R c (HX.rf h), b2_some, if_pos a.1, if_neg (by decide), R.2.2.1.1, if_neg (show ¬ nI L ≤ (0 : Int32) from nI_nle a.2 (by omega)), c.2.2.2.2.2.1.1, i3, of5_eq R.2.2.1 R.1 a.1 (by omega), b2_some, s0, if_pos (by decide)]
    · obtain ⟨r, h1, h2, e1, x, e2, R2⟩ := ok_put R c a.1 hl (nI (q n 3))
      refine ⟨r, h1, h2, ?_, ?_, L, P, Z, wd, q, R2⟩
      · rw [if_pos a, if_neg (by decide), c.2.2.2.2.2.1.2, i3, of_eq R.2.1 R.1 a.1 (by omega), b2_some, if_neg (show ¬ nI (q n 3) = (0 : Int32) from nI_ne0 (by omega) (by omega)), c.2.2.2.2.2.1.2, of_eq R.2.1 R.1 a.1 (by omega), b2_some, e1, b2_some]
      · have cy := x.cdY R.2.2.1 R.1
        rw [isNext_eq R c x, b2_some, if_pos a.1, if_neg (by decide), cy.1, if_neg (show ¬ nI L ≤ (0 : Int32) from nI_nle a.2 (by omega)), x.n, c.2.2.2.2.2.1.1, i3, of5_eq cy R.1 a.1 (by omega), b2_some, if_neg (show ¬ nI (q n 3) ≤ (0 : Int32) from nI_nle (by omega) (by omega)), x.n, c.2.2.2.2.2.1.1, of5_eq cy R.1 a.1 (by omega), b2_some, e2, b2_some]
  · refine ⟨-2, h, h, by rw [if_neg a, if_pos rfl], ?_, L, P, Z, wd, q, R⟩
    rw [isNext_eq R c (HX.rf h), b2_some]
    by_cases a1 : n < P
    · rw [if_pos a1, if_neg (by decide), R.2.2.1.1, show L = 0 by omega, if_pos (by decide)]
    · rw [if_neg a1, if_pos rfl]
theorem ok_omits : OK X4_omits X5_omits := by
  intro h ⟨L, P, Z, wd, q, R⟩
  obtain ⟨n, l, z, b, k, c⟩ := R.cur
  have h10 := R.1.2.1
  obtain ⟨c1, c2, c3, c4, c5, c6, c7, c8, c9, c10, c11⟩ := id c
  unfold X4_omits X5_omits
  rw [hasNext_eq R c, b2_some]
  by_cases a : n < P
  · have hb : b ||| 2 ^ n < 1024 := Nat.or_lt_two_pow (n := 10) c4 (Nat.pow_lt_pow_right (by omega) (by omega))
    obtain ⟨g, eg, rg, st⟩ := step_both R c (f := mk5 (nI (n + 1)) (nI l) (h.1 27 2) (nI z) (nI (b ||| 2 ^ n))) (V5_mk (by omega) c2 c3.1 c3.2 hb)
    have g1 : ∀ j, j < 7 → g.1 12 j = h.1 12 j := rg.2.1
    have e5 : g.1 12 5 = nI b := (g1 5 (by omega)).trans c10.2
    have e1 : g.1 12 1 = nI n := (g1 1 (by omega)).trans c6.2
    obtain ⟨x1, g2, eg2, r0, ro, st2⟩ := st (sI (sI g 12 5 (nI (b ||| 2 ^ n))) 12 1 (nI (n + 1))) (fun o ho => by simp only [sI_row, ho, if_false]) rfl rfl (lt5c rfl ((g1 2 (by omega)).trans c7.2) ((g1 3 (by omega)).trans c8) ((g1 4 (by omega)).trans c9.2) rfl)
    refine ⟨nI (pop (b ||| 2 ^ n) 10), sI (sI g 12 5 (nI (b ||| 2 ^ n))) 12 1 (nI (n + 1)), sI (sI g2 27 4 (nI (b ||| 2 ^ n))) 27 0 (nI (n + 1)), ?_, ?_, L, P, Z, wd, q, ?_⟩
    · rw [if_pos a, if_neg (by decide)]
      unfold X1_leaveOut
      rw [eg, bind_some', e5, e1, nI_shl (by omega), nI_or, bitCount_eq hb, b2_some, i1, nI_add, b2_some]
    · rw [isNext_eq R c x1, b2_some, if_pos a, if_neg (by decide), eg2, bind_some', r0 4 (by omega), r0 0 (by omega), c10.1, c6.1, nI_shl (by omega), nI_or, manyOf_eq hb, b2_some, i1, nI_add]
    · refine st2 _ (fun o ho => by simp only [sI_row, ho, if_false]) rfl (fun j hj => ?_) (lt5c rfl ((r0 1 (by omega)).trans c7.1) (r0 2 (by omega)) ((r0 3 (by omega)).trans c9.1) rfl)
      simp only [sI_row, if_true, upd, show ¬ j = 0 by omega, show ¬ j = 4 by omega, if_false]
  · refine ⟨-2, h, h, by rw [if_neg a, if_pos rfl], ?_, L, P, Z, wd, q, R⟩
    rw [isNext_eq R c (HX.rf h), b2_some, if_neg a, if_pos rfl]
theorem in15 {x : Int32} (hx : (1 : Int32) ≤ x ∧ x ≤ 5) : ∃ j : Nat, 1 ≤ j ∧ j ≤ 5 ∧ x = nI j := by
  have h0 : (0 : Int32) ≤ x := Int32.le_trans (by decide) hx.1
  obtain ⟨j, hj, rfl⟩ := in05 ⟨h0, hx.2⟩
  exact ⟨j, (nI_leI (a := 1) (by omega) (by omega)).mp hx.1, by omega, rfl⟩
theorem ok_smaller (x : Int32) : OK (X4_smaller x) (X5_smaller x) := by
  intro h ⟨L, P, Z, wd, q, R⟩
  obtain ⟨n, l, z, b, k, c⟩ := R.cur
  obtain ⟨c1, c2, c3, c4, c5, c6, c7, c8, c9, c10, c11⟩ := id c
  unfold X4_smaller X5_smaller
  rw [X4_within_eq, b2_some, c9.2, R.2.1.2.2.1]
  by_cases a : (1 : Int32) ≤ x ∧ x ≤ 5
  · by_cases a2 : nI z ≤ x
    · refine ⟨-2, h, h, by rw [if_pos a, if_neg (by decide), if_pos a2], ?_, L, P, Z, wd, q, R⟩
      rw [X5_in_eq, b2_some, if_pos a, if_neg (by decide), c9.1, if_pos a2]
    · by_cases a3 : nI Z ≤ x
      · obtain ⟨y, y1, y2, rfl⟩ := in15 a
        obtain ⟨g, eg, rg, st⟩ := step_both R c (f := mk5 (nI n) (nI l) (h.1 27 2) (nI y) (nI b)) (V5_mk c1 c2 y1 y2 c4)
        have g1 : ∀ j, j < 7 → g.1 12 j = h.1 12 j := rg.2.1
        obtain ⟨x1, g2, eg2, r0, ro, st2⟩ := st (sI g 12 4 (nI y)) (fun o ho => by simp only [sI_row, ho, if_false]) rfl rfl (lt5c ((g1 1 (by omega)).trans c6.2) ((g1 2 (by omega)).trans c7.2) ((g1 3 (by omega)).trans c8) rfl ((g1 5 (by omega)).trans c10.2))
        refine ⟨nI z, sI g 12 4 (nI y), sI g2 27 3 (nI y), ?_, ?_, L, P, Z, wd, q, ?_⟩
        · rw [if_pos a, if_neg (by decide), if_neg a2, if_pos a3]
          unfold X1_shrink
          rw [eg, bind_some', g1 4 (by omega), c9.2, b2_some]
        · rw [X5_in_eq, b2_some, if_pos a, if_neg (by decide), x1.n, c9.1, if_neg a2, (x1.cdY R.2.2.1 R.1).2.2.1, if_pos a3, eg2, bind_some', r0 3 (by omega), c9.1]
        · refine st2 _ (fun o ho => by simp only [sI_row, ho, if_false]) rfl (fun j hj => ?_) (lt5c ((r0 0 (by omega)).trans c6.1) ((r0 1 (by omega)).trans c7.1) (r0 2 (by omega)) rfl ((r0 4 (by omega)).trans c10.1))
          simp only [sI_row, if_true, upd, show ¬ j = 3 by omega, if_false]
      · refine ⟨-2, h, h, by rw [if_pos a, if_neg (by decide), if_neg a2, if_neg a3], ?_, L, P, Z, wd, q, R⟩
        rw [X5_in_eq, b2_some, if_pos a, if_neg (by decide), c9.1, if_neg a2, R.2.2.1.2.2.1, if_neg a3]
  · refine ⟨-1, h, h, by rw [if_neg a, if_pos rfl], ?_, L, P, Z, wd, q, R⟩
    rw [X5_in_eq, b2_some, if_neg a, if_pos rfl]
theorem ix_nIff {a n : Nat} (h : a < 2 ^ 31) : isIx (nI a) n ↔ a < n := by unfold isIx; rw [nI_toInt h]; omega
theorem ok_turnsOver : OK X4_turnsOver X5_turnsOver := by
  intro h ⟨L, P, Z, wd, q, R⟩
  obtain ⟨n, l, z, b, k, c⟩ := R.cur
  obtain ⟨c1, c2, c3, c4, c5, c6, c7, c8, c9, c10, c11⟩ := id c
  have h6 := R.1.1
  unfold X4_turnsOver X5_turnsOver
  rw [c7.2, i1, nI_add, hasLine_eq R.2.1 R.1, b2_some]
  by_cases a : l + 1 < L
  · obtain ⟨g, eg, rg, st⟩ := step_both R c (f := mk5 (nI n) (nI (l + 1)) (nI (wd (l + 1))) (nI z) (nI b)) (V5_mk c1 (Or.inl a) c3.1 c3.2 c4)
    have g1 : ∀ j, j < 7 → g.1 12 j = h.1 12 j := rg.2.1
    obtain ⟨x1, g2, eg2, r0, ro, st2⟩ := st (sI (sI g 12 2 (nI (l + 1))) 12 3 (nI (wd (l + 1)))) (fun o ho => by simp only [sI_row, ho, if_false]) rfl rfl (lt5c ((g1 1 (by omega)).trans c6.2) rfl rfl ((g1 4 (by omega)).trans c9.2) ((g1 5 (by omega)).trans c10.2))
    have cx : CdX (sI g 12 2 (nI (l + 1))) L P Z wd q := by
      have S : ∀ o, o ≠ 12 → o ≠ 13 → (sI g 12 2 (nI (l + 1))).1 o = h.1 o := fun o q1 q2 => by rw [sI_row, if_neg q1, rg.2.2.2.2.1 o q1 q2]
      exact R.2.1.of (fun j _ => by rw [S 4 (by decide) (by decide)]) (S 5 (by decide) (by decide)) (S 6 (by decide) (by decide))
    have cy : CdY g2 L P Z wd q := (x1.cdY R.2.2.1 R.1).of R.1.1 R.1.2.1 (by rw [ro 22 (by decide)]) (by rw [ro 24 (by decide)]) (by rw [ro 26 (by decide)]) (fun j _ => by rw [ro 23 (by decide)]) (fun j _ => by rw [ro 25 (by decide)])
    refine ⟨nI (l + 1), sI (sI g 12 2 (nI (l + 1))) 12 3 (nI (wd (l + 1))), sI (sI g2 27 1 (nI (l + 1))) 27 2 (nI (wd (l + 1))), ?_, ?_, L, P, Z, wd, q, ?_⟩
    · rw [if_pos ((ix_nIff (by omega)).mpr a), if_neg (by decide)]
      unfold X1_turn
      rw [eg, bind_some', g1 2 (by omega), c7.2, i1, nI_add, wideOf_yes cx R.1 a, b2_some, b2_some]
      rfl
    · rw [x1.n, c7.1, nI_add, isLine_eq (x1.cdY R.2.2.1 R.1) R.1, b2_some, if_pos ((ix_nIff (by omega)).mpr a), if_neg (by decide), eg2, bind_some', r0 1 (by omega), c7.1, nI_add, ld_nI (by omega) (by omega), bind_some', show (sI g2 27 1 (nI (l + 1))).1 23 (l + 1) = g2.1 23 (l + 1) from rfl, cy.2.2.2.1 (l + 1) a]
    · refine st2 _ (fun o ho => by simp only [sI_row, ho, if_false]) rfl (fun j hj => ?_) (lt5c ((r0 0 (by omega)).trans c6.1) rfl rfl ((r0 3 (by omega)).trans c9.1) ((r0 4 (by omega)).trans c10.1))
      simp only [sI_row, if_true, upd, show ¬ j = 1 by omega, show ¬ j = 2 by omega, if_false]
  · have hx : ¬ isIx (nI (l + 1)) L := fun z => a ((ix_nIff (by omega)).mp z)
    refine ⟨-2, h, h, by rw [if_neg hx, if_pos rfl], ?_, L, P, Z, wd, q, R⟩
    rw [c7.1, nI_add, isLine_eq R.2.2.1 R.1, b2_some, if_neg hx, if_pos rfl]
