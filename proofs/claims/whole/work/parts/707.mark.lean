/-! kinds -/
section
variable {h : Hp} {L P Z : Nat} {wd : Nat → Nat} {q : Nat → Nat → Nat}
theorem CdX.sl (c : CdX h L P Z wd q) (o k : Nat) (v : Int64) : CdX (sL h o k v) L P Z wd q := c
theorem CdY.sl (c : CdY h L P Z wd q) (o k : Nat) (v : Int64) : CdY (sL h o k v) L P Z wd q := c
theorem sL_sL (g : Hp) (o k : Nat) (v w : Int64) : sL (sL g o k v) o k w = sL g o k w := by
  refine Prod.ext rfl (funext fun a => funext fun j => ?_)
  rw [sL_at, sL_at, sL_at]
  by_cases e : a = o ∧ j = k
  · rw [if_pos e, if_pos e]
  · rw [if_neg e, if_neg e, if_neg e]
theorem sL_self (g : Hp) (o k : Nat) (v : Int64) : (sL g o k v).2 o k = v := by rw [sL_at, if_pos ⟨rfl, rfl⟩]
theorem asPiece_eq (c : CdX h L P Z wd q) (k : Cok L P Z wd q) {w : Nat} (hw : w < P) : X4_asPiece (nI w) h = some (nI (q w 0), sL h 0 11 (h.2 0 11 + 1)) := by
  unfold X4_asPiece
  rw [i0, of_eq (c.sl 0 11 _) k hw (by omega), b2_some]
theorem asShort_eq (c : CdX h L P Z wd q) (k : Cok L P Z wd q) {w : Nat} (hw : w < P) : X4_asShort (nI w) h = some (nI (q w 0) + nI (q w 1), sL h 0 11 (h.2 0 11 + 11)) := by
  unfold X4_asShort
  rw [asPiece_eq (c.sl 0 11 _) k hw, b2_some, sL_sL, sL_self, i1, of_eq (c.sl 0 11 _) k hw (by omega), b2_some, Int64.add_assoc, show (10 : Int64) + 1 = 11 by decide]
theorem asLong_eq (c : CdX h L P Z wd q) (k : Cok L P Z wd q) {w : Nat} (hw : w < P) : X4_asLong (nI w) h = some (nI (q w 0) - nI (q w 4), sL h 0 11 (h.2 0 11 + 101)) := by
  unfold X4_asLong
  rw [asPiece_eq (c.sl 0 11 _) k hw, b2_some, sL_sL, sL_self, i4, of_eq (c.sl 0 11 _) k hw (by omega), b2_some, Int64.add_assoc, show (100 : Int64) + 1 = 101 by decide]
theorem asSign_eq (c : CdX h L P Z wd q) (k : Cok L P Z wd q) {w : Nat} (hw : w < P) : X4_asSign (nI w) h = some ((nI (q w 0) + nI (q w 1)) * 2, sL h 0 11 (h.2 0 11 + 1011)) := by
  unfold X4_asSign
  rw [asShort_eq (c.sl 0 11 _) k hw, b2_some, sL_sL, sL_self, Int64.add_assoc, show (1000 : Int64) + 11 = 1011 by decide]
theorem asMargin_eq (c : CdX h L P Z wd q) (k : Cok L P Z wd q) {w : Nat} (hw : w < P) : X4_asMargin (nI w) h = some (nI (q w 0) - nI (q w 4) + h.1 12 2, sL h 0 11 (h.2 0 11 + 10101)) := by
  unfold X4_asMargin
  rw [asLong_eq (c.sl 0 11 _) k hw, b2_some, sL_sL, sL_self, Int64.add_assoc, show (10000 : Int64) + 101 = 10101 by decide]
  rfl
theorem asKiss_eq (c : CdX h L P Z wd q) (k : Cok L P Z wd q) {w : Nat} (hw : w < P) : X4_asKiss (nI w) h = some (nI (q w 0) + h.1 12 4, sL h 0 11 (h.2 0 11 + 100001)) := by
  unfold X4_asKiss
  rw [asPiece_eq (c.sl 0 11 _) k hw, b2_some, sL_sL, sL_self, Int64.add_assoc, show (100000 : Int64) + 1 = 100001 by decide]
  rfl
theorem Rl.sl (R : Rl h L P Z wd q) (t : Int64) : Rl (sL (sL h 0 11 (h.2 0 11 + t)) 20 0 ((sL h 0 11 (h.2 0 11 + t)).2 20 0 + t)) L P Z wd q := by
  obtain ⟨kk, cx, cy, tx, d, i, s, z⟩ := R
  refine ⟨kk, cx, cy, tx, d, i, s, ?_⟩
  unfold TrR
  rw [sL_at, if_neg (by omega), sL_at, if_pos ⟨rfl, rfl⟩, sL_at, if_pos ⟨rfl, rfl⟩, sL_at, if_neg (by omega)]
  rw [show h.2 0 11 = h.2 20 0 from z]
theorem mark_go (R : Rl h L P Z wd q) {f g : Hp → Option (Int32 × Hp)} {r : Int32} (t : Int64) (e1 : f h = some (r, sL h 0 11 (h.2 0 11 + t))) (e2 : g (sL h 0 11 (h.2 0 11 + t)) = some (r, sL (sL h 0 11 (h.2 0 11 + t)) 20 0 ((sL h 0 11 (h.2 0 11 + t)).2 20 0 + t))) : ∃ r h1 h2, f h = some (r, h1) ∧ g h1 = some (r, h2) ∧ Rel h2 :=
  ⟨r, _, _, e1, e2, L, P, Z, wd, q, R.sl t⟩
end
theorem ok_mark (x y : Int32) : OK (X4_mark x y) (X5_mark x y) := by
  intro h ⟨L, P, Z, wd, q, R⟩
  obtain ⟨n, l, z, b, k, c⟩ := R.cur
  have h10 := R.1.2.1
  obtain ⟨kk, cx, cy, -⟩ := id R
  by_cases hy : isIx y P
  · obtain ⟨w, hw, rfl⟩ := ix_of hy (by omega)
    by_cases hx : (0 : Int32) ≤ x ∧ x ≤ 5
    · obtain ⟨j, hj, rfl⟩ := in05 hx
      have pre : ∀ g : Hp, CdY g L P Z wd q → X5_mark (nI j) (nI w) g = (if nI j = 0 then
          some (nI (q w 0), sL g 20 0 (g.2 20 0 + 1))
        else if nI j = 1 then b2 (X5_of (nI w) 1 (sL g 20 0 (g.2 20 0 + 11))) fun v10 h9 => some (nI (q w 0) + v10, h9)
        else if nI j = 2 then b2 (X5_of (nI w) 4 (sL g 20 0 (g.2 20 0 + 101))) fun v12 h11 => some (nI (q w 0) - v12, h11)
        else if nI j = 3 then b2 (X5_of (nI w) 1 (sL g 20 0 (g.2 20 0 + 1011))) fun v14 h13 => some (2 * (nI (q w 0) + v14), h13)
        else if nI j = 4 then b2 (X5_of (nI w) 4 (sL g 20 0 (g.2 20 0 + 10101))) fun v16 h15 => some (nI (q w 0) - v16 + h15.1 27 1, h15)
        else some (nI (q w 0) + g.1 27 3, sL g 20 0 (g.2 20 0 + 100001))) := fun g cg => by
        unfold X5_mark
        rw [X5_in_eq, b2_some, if_pos hx, if_neg (by decide), isPiece_eq cg kk, b2_some, if_pos hy, if_neg (by decide), show X5_of (nI w) 0 g = some (nI (q w 0), g) from of5_eq (j := 0) cg kk hw (by omega), b2_some]
      have o1 : ∀ g : Hp, CdY g L P Z wd q → X5_of (nI w) 1 g = some (nI (q w 1), g) := fun g cg => of5_eq (j := 1) cg kk hw (by omega)
      have o4 : ∀ g : Hp, CdY g L P Z wd q → X5_of (nI w) 4 g = some (nI (q w 4), g) := fun g cg => of5_eq (j := 4) cg kk hw (by omega)
      have : j = 0 ∨ j = 1 ∨ j = 2 ∨ j = 3 ∨ j = 4 ∨ j = 5 := by omega
      rcases this with rfl | rfl | rfl | rfl | rfl | rfl
      · refine mark_go R 1 (r := nI (q w 0)) ?_ ?_
        · unfold X4_mark
          rw [hasPiece_eq cx kk, b2_some, if_pos hy, if_neg (by decide), if_pos (by decide), asPiece_eq cx kk hw, b2_some]
        · rw [pre _ (cy.sl 0 11 _), if_pos (by decide)]
      · refine mark_go R 11 (r := nI (q w 0) + nI (q w 1)) ?_ ?_
        · unfold X4_mark
          rw [hasPiece_eq cx kk, b2_some, if_pos hy, if_neg (by decide), if_neg (by decide), if_pos (by decide), asShort_eq cx kk hw, b2_some]
        · rw [pre _ (cy.sl 0 11 _), if_neg (by decide), if_pos (by decide), o1 _ ((cy.sl 0 11 _).sl 20 0 _), b2_some]
      · refine mark_go R 101 (r := nI (q w 0) - nI (q w 4)) ?_ ?_
        · unfold X4_mark
          rw [hasPiece_eq cx kk, b2_some, if_pos hy, if_neg (by decide), if_neg (by decide), if_neg (by decide), if_pos (by decide), asLong_eq cx kk hw, b2_some]
        · rw [pre _ (cy.sl 0 11 _), if_neg (by decide), if_neg (by decide), if_pos (by decide), o4 _ ((cy.sl 0 11 _).sl 20 0 _), b2_some]
      · refine mark_go R 1011 (r := (nI (q w 0) + nI (q w 1)) * 2) ?_ ?_
        · unfold X4_mark
          rw [hasPiece_eq cx kk, b2_some, if_pos hy, if_neg (by decide), if_neg (by decide), if_neg (by decide), if_neg (by decide), if_pos (by decide), asSign_eq cx kk hw, b2_some]
        · rw [pre _ (cy.sl 0 11 _), if_neg (by decide), if_neg (by decide), if_neg (by decide), if_pos (by decide), o1 _ ((cy.sl 0 11 _).sl 20 0 _), b2_some, Int32.mul_comm]
      · refine mark_go R 10101 (r := nI (q w 0) - nI (q w 4) + h.1 12 2) ?_ ?_
        · unfold X4_mark
          rw [hasPiece_eq cx kk, b2_some, if_pos hy, if_neg (by decide), if_neg (by decide), if_neg (by decide), if_neg (by decide), if_neg (by decide), if_pos (by decide), asMargin_eq cx kk hw, b2_some]
        · rw [pre _ (cy.sl 0 11 _), if_neg (by decide), if_neg (by decide), if_neg (by decide), if_neg (by decide), if_pos (by decide), o4 _ ((cy.sl 0 11 _).sl 20 0 _), b2_some]
          show some (nI (q w 0) - nI (q w 4) + h.1 27 1, _) = _
          rw [c.2.2.2.2.2.2.1.1, c.2.2.2.2.2.2.1.2]
      · refine mark_go R 100001 (r := nI (q w 0) + h.1 12 4) ?_ ?_
        · unfold X4_mark
          rw [hasPiece_eq cx kk, b2_some, if_pos hy, if_neg (by decide), if_neg (by decide), if_neg (by decide), if_neg (by decide), if_neg (by decide), if_neg (by decide), if_pos (by decide), asKiss_eq cx kk hw, b2_some]
        · rw [pre _ (cy.sl 0 11 _), if_neg (by decide), if_neg (by decide), if_neg (by decide), if_neg (by decide), if_neg (by decide)]
          show some (nI (q w 0) + h.1 27 3, _) = _
          rw [c.2.2.2.2.2.2.2.2.1.1, c.2.2.2.2.2.2.2.2.1.2]
    · have hne : ∀ v : Int32, ((0 : Int32) ≤ v ∧ v ≤ 5) → ¬ x = v := fun v hv e => hx (e ▸ hv)
      refine ⟨-1000000, h, h, ?_, ?_, L, P, Z, wd, q, R⟩
      · unfold X4_mark
        rw [hasPiece_eq cx kk, b2_some, if_pos hy, if_neg (by decide), if_neg (hne 0 (by decide)), if_neg (hne 1 (by decide)), if_neg (hne 2 (by decide)), if_neg (hne 3 (by decide)), if_neg (hne 4 (by decide)), if_neg (hne 5 (by decide))]
      · unfold X5_mark
        rw [X5_in_eq, b2_some, if_neg hx, if_pos rfl]
  · refine ⟨-1000000, h, h, ?_, ?_, L, P, Z, wd, q, R⟩
    · unfold X4_mark
      rw [hasPiece_eq cx kk, b2_some, if_neg hy, if_pos rfl]
    · unfold X5_mark
      rw [X5_in_eq, b2_some]
      by_cases hx : (0 : Int32) ≤ x ∧ x ≤ 5
      · rw [if_pos hx, if_neg (by decide), isPiece_eq cy kk, b2_some, if_neg hy, if_pos rfl]
      · rw [if_neg hx, if_pos rfl]
