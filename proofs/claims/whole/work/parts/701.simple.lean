/-! reading the card -/
section
variable {h : Hp} {L P Z : Nat} {wd : Nat → Nat} {q : Nat → Nat → Nat}
theorem hasLine_eq (c : CdX h L P Z wd q) (k : Cok L P Z wd q) (x : Int32) : X3_hasLine x h = some (if isIx x L then 1 else 0, h) := by
  unfold X3_hasLine
  rw [X4_within_eq, b2_some, zb_if, c.1]
  simp only [ix_iff (show L < 2 ^ 31 by have := k.1; omega)]
theorem hasPiece_eq (c : CdX h L P Z wd q) (k : Cok L P Z wd q) (x : Int32) : X3_hasPiece x h = some (if isIx x P then 1 else 0, h) := by
  unfold X3_hasPiece
  rw [X4_within_eq, b2_some, zb_if, c.2.1]
  simp only [ix_iff (show P < 2 ^ 31 by have := k.2.1; omega)]
theorem isLine_eq (c : CdY h L P Z wd q) (k : Cok L P Z wd q) (x : Int32) : X5_isLine x h = some (if isIx x L then 1 else 0, h) := by
  unfold X5_isLine
  rw [X5_in_eq, b2_some, zb_if, c.1]
  simp only [ix_iff (show L < 2 ^ 31 by have := k.1; omega)]
theorem isPiece_eq (c : CdY h L P Z wd q) (k : Cok L P Z wd q) (x : Int32) : X5_isPiece x h = some (if isIx x P then 1 else 0, h) := by
  unfold X5_isPiece
  rw [X5_in_eq, b2_some, zb_if, c.2.1]
  simp only [ix_iff (show P < 2 ^ 31 by have := k.2.1; omega)]
theorem wideOf_no (c : CdX h L P Z wd q) (k : Cok L P Z wd q) {x : Int32} (hx : ¬ isIx x L) : X3_wideOf x h = some (0, h) := by
  unfold X3_wideOf
  rw [hasLine_eq c k, b2_some, if_neg hx]
  rfl
theorem wideOf_yes (c : CdX h L P Z wd q) (k : Cok L P Z wd q) {l : Nat} (hl : l < L) : X3_wideOf (nI l) h = some (nI (wd l), h) := by
  have h6 := k.1
  unfold X3_wideOf
  rw [hasLine_eq c k, b2_some, if_pos (ix_nI hl (by omega)), if_neg (by decide), ld_nI (by omega) (by omega), bind_some', c.2.2.2.1 l hl]
theorem of_eq (c : CdX h L P Z wd q) (k : Cok L P Z wd q) {w j : Nat} (hw : w < P) (hj : j < 5) : X3_of (nI w) (nI j) h = some (nI (q w j), h) := by
  have h10 := k.2.1
  unfold X3_of
  rw [hasPiece_eq c k, b2_some, if_pos (ix_nI hw (by omega)), if_neg (by decide), X4_within_eq, b2_some, if_pos (show (0 : Int32) ≤ nI j ∧ nI j ≤ (4 : Int32) from ⟨nI_pos' (by omega), nI_le (b := 4) (by omega) (by omega)⟩), if_neg (by decide), i5, pk_mul, nI_add, ld_nI (by omega) (by omega), bind_some', Nat.mul_comm w 5, c.2.2.2.2 w hw j hj]
theorem of_no (c : CdX h L P Z wd q) (k : Cok L P Z wd q) {x y : Int32} (hx : ¬ isIx x P) : X3_of x y h = some (0, h) := by
  unfold X3_of
  rw [hasPiece_eq c k, b2_some, if_neg hx]
  rfl
theorem of5_eq (c : CdY h L P Z wd q) (k : Cok L P Z wd q) {w j : Nat} (hw : w < P) (hj : j < 5) : X5_of (nI w) (nI j) h = some (nI (q w j), h) := by
  have h10 := k.2.1
  unfold X5_of
  rw [i5, pk_mul, nI_add, ld_nI (by omega) (by omega), bind_some', c.2.2.2.2 w hw j hj]
theorem needsAny_eq (c : CdX h L P Z wd q) (k : Cok L P Z wd q) {w : Nat} (hw : w < P) : X3_needsAny (nI w) h = some (if q w 2 = 99 then 0 else 1, h) := by
  have hq : q w 2 < 2 ^ 31 := by
    have := (k.2.2.2.2.2 w hw).2.2.2.1
    have := k.2.1
    omega
  unfold X3_needsAny
  rw [i2, of_eq c k hw (by omega), b2_some, i99]
  by_cases e : q w 2 = 99
  · rw [e, if_pos rfl, if_pos rfl]
  · rw [if_neg e, if_neg (fun z => e ((nI_eq hq (by omega)).mp z))]
theorem isSize_eq (c : CdX h L P Z wd q) (x : Int32) : X4_isSize x h = some (if nI Z ≤ x ∧ x ≤ 5 then 1 else 0, h) := by
  unfold X4_isSize
  rw [X4_within_eq, b2_some, zb_if, c.2.2.1]
theorem isSize5_eq (c : CdY h L P Z wd q) (x : Int32) : X5_isSize x h = some (if nI Z ≤ x ∧ x ≤ 5 then 1 else 0, h) := by
  unfold X5_isSize
  rw [X5_in_eq, b2_some, zb_if, c.2.2.1]
end
theorem bit_eq (x y : Int32) (h : Hp) : X4_bit x y h = some ((x >>> (y &&& 31)) &&& 1, h) := rfl
/-! the calls that read, or write one place -/
theorem ok_line (x : Int32) : OK (X4_line x) (X5_line x) := by
  intro h ⟨L, P, Z, wd, q, R⟩
  obtain ⟨k, cx, cy, -⟩ := id R
  have h6 := k.1
  unfold X4_line X5_line
  rw [hasLine_eq cx k]
  by_cases hx : isIx x L
  · obtain ⟨l, hl, rfl⟩ := ix_of hx (by omega)
    refine ⟨nI (wd l), h, h, ?_, ?_, L, P, Z, wd, q, R⟩
    · rw [b2_some, if_pos hx, if_neg (by decide), wideOf_yes cx k hl, b2_some]
    · rw [isLine_eq cy k, b2_some, if_pos hx, if_neg (by decide), ld_nI (by omega) (by omega), bind_some', cy.2.2.2.1 l hl]
  · refine ⟨-1, h, h, ?_, ?_, L, P, Z, wd, q, R⟩
    · rw [b2_some, if_neg hx, if_pos rfl]
    · rw [isLine_eq cy k, b2_some, if_neg hx, if_pos rfl]
theorem in05 {x : Int32} (hx : (0 : Int32) ≤ x ∧ x ≤ 5) : ∃ j : Nat, j < 6 ∧ x = nI j := by
  have h := (ix_iff (x := x) (n := 6) (by omega)).mp (show (0 : Int32) ≤ x ∧ x ≤ nI 6 - 1 from hx)
  exact ix_of h (by omega)
theorem ok_word (x y : Int32) : OK (X4_word x y) (X5_word x y) := by
  intro h ⟨L, P, Z, wd, q, R⟩
  obtain ⟨k, cx, cy, ct, ch, -⟩ := id R
  have h10 := k.2.1
  unfold X4_word X5_word
  rw [hasPiece_eq cx k]
  by_cases hx : isIx x P
  · obtain ⟨w, hw, rfl⟩ := ix_of hx (by omega)
    by_cases hy : (0 : Int32) ≤ y ∧ y ≤ 5
    · obtain ⟨j, hj, rfl⟩ := in05 hy
      by_cases h5 : j = 5
      · subst h5
        refine ⟨((h.1 27 4) >>> (nI w &&& 31)) &&& 1, h, h, ?_, ?_, L, P, Z, wd, q, R⟩
        · rw [b2_some, if_pos hx, if_neg (by decide), X4_within_eq, b2_some, if_pos hy, if_neg (by decide), if_pos (by decide), bit_eq, b2_some, ch.1 4 (by omega)]
        · rw [isPiece_eq cy k, b2_some, if_pos hx, if_neg (by decide), X5_in_eq, b2_some, if_pos hy, if_neg (by decide), if_pos (by decide)]
      · refine ⟨nI (q w j), h, h, ?_, ?_, L, P, Z, wd, q, R⟩
        · rw [b2_some, if_pos hx, if_neg (by decide), X4_within_eq, b2_some, if_pos hy, if_neg (by decide), if_neg (by rw [i5, nI_leI (by omega) (by omega)]; omega), of_eq cx k hw (by omega), b2_some]
        · rw [isPiece_eq cy k, b2_some, if_pos hx, if_neg (by decide), X5_in_eq, b2_some, if_pos hy, if_neg (by decide), if_neg (by rw [i5, nI_eq (by omega) (by omega)]; omega), of5_eq cy k hw (by omega), b2_some]
    · refine ⟨-1, h, h, ?_, ?_, L, P, Z, wd, q, R⟩
      · rw [b2_some, if_pos hx, if_neg (by decide), X4_within_eq, b2_some, if_neg hy, if_pos rfl]
      · rw [isPiece_eq cy k, b2_some, if_pos hx, if_neg (by decide), X5_in_eq, b2_some, if_neg hy, if_pos rfl]
  · refine ⟨-1, h, h, ?_, ?_, L, P, Z, wd, q, R⟩
    · rw [b2_some, if_neg hx, if_pos rfl]
    · rw [isPiece_eq cy k, b2_some, if_neg hx, if_pos rfl]
theorem ok_count (x : Int32) : OK (X4_count x) (X5_count x) := by
  intro h ⟨L, P, Z, wd, q, R⟩
  obtain ⟨k, cx, cy, ⟨n, n1, n2, n3, n4⟩, ⟨d1, d2, kk, d3, d4, d5, d6⟩, ci, ⟨s, s1, s2, s3, s4⟩, ctr⟩ := id R
  have e0 : h.1 22 0 = h.1 4 2 := by rw [cx.1, cy.1]
  have e1 : h.1 24 0 = h.1 4 3 := by rw [cx.2.1, cy.2.1]
  have e2 : h.1 26 0 = h.1 4 4 := by rw [cx.2.2.1, cy.2.2.1]
  have e3 : h.1 20 26 = h.1 0 10 := by rw [s2, s3]
  have e4 : h.1 27 5 = h.1 12 7 := by rw [d4]; exact d5
  have e5 : h.1 20 2 = h.1 1 2 := by rw [n2, n3]
  have e : X5_count x h = X4_count x h := by
    unfold X4_count X5_count
    rw [e0, e1, e2, e3, e4, e5]
  obtain ⟨r, hr⟩ : ∃ r, X4_count x h = some (r, h) := by
    unfold X4_count
    by_cases c0 : x = 0 <;> by_cases c1 : x = 1 <;> by_cases c2 : x = 2 <;> by_cases c3 : x = 3 <;> by_cases c4 : x = 4 <;> by_cases c5 : x = 5 <;> simp only [c0, c1, c2, c3, c4, c5, if_true, if_false] <;> exact ⟨_, rfl⟩
  exact ⟨r, h, h, hr, e.trans hr, L, P, Z, wd, q, R⟩
theorem ok_trace : OK X4_trace X5_trace := by
  intro h R
  obtain ⟨L, P, Z, wd, q, R⟩ := id R
  have e : h.2 0 11 = h.2 20 0 := R.2.2.2.2.2.2.2
  exact ⟨h.2 0 11, h, h, rfl, by unfold X5_trace; rw [e], L, P, Z, wd, q, R⟩
theorem ok_forget : OK X4_forget X5_forget := by
  intro h ⟨L, P, Z, wd, q, R⟩
  obtain ⟨k, cx, cy, t, d, i, ⟨s, s1, s2, s3, s4⟩, z⟩ := R
  refine ⟨nI s, sI h 0 10 0, sI (sI h 0 10 0) 20 26 0, by unfold X4_forget; rw [s2], by unfold X5_forget; rw [show (sI h 0 10 0).1 20 26 = h.1 20 26 from rfl, s3], L, P, Z, wd, q, k, ?_, ?_, ?_, ?_, ?_, ?_, ?_⟩
  · exact cx.of (fun _ _ => rfl) rfl rfl
  · exact cy.of k.1 k.2.1 rfl rfl rfl (fun _ _ => rfl) (fun _ _ => rfl)
  · exact t.of rfl rfl rfl rfl
  · exact d.of (fun _ _ _ _ => rfl) rfl (fun _ _ _ => rfl)
  · exact i.of rfl rfl rfl rfl rfl rfl (fun _ _ _ => rfl)
  · exact ⟨0, by omega, rfl, rfl, fun i hi => by omega⟩
  · exact z
theorem ok_clear : OK X4_clear X5_clear := by
  intro h ⟨L, P, Z, wd, q, R⟩
  obtain ⟨k, cx, cy, ⟨n, n1, n2, n3, n4⟩, d, i, s, z⟩ := R
  refine ⟨nI n, sI h 1 2 0, sI (sI h 1 2 0) 20 2 0, by unfold X4_clear; rw [n2], by unfold X5_clear; rw [show (sI h 1 2 0).1 20 2 = h.1 20 2 from rfl, n3], L, P, Z, wd, q, k, ?_, ?_, ?_, ?_, ?_, ?_, ?_⟩
  · exact cx.of (fun _ _ => rfl) rfl rfl
  · exact cy.of k.1 k.2.1 rfl rfl rfl (fun _ _ => rfl) (fun _ _ => rfl)
  · exact ⟨0, by omega, rfl, rfl, fun i hi => by omega⟩
  · exact d.of (fun _ _ _ _ => rfl) rfl (fun _ _ _ => rfl)
  · exact i.of rfl rfl rfl rfl rfl rfl (fun _ _ _ => rfl)
  · exact s.of rfl rfl rfl rfl rfl rfl
  · exact z
theorem in0255 {x : Int32} (hx : (0 : Int32) ≤ x ∧ x ≤ 255) : ∃ j : Nat, j < 256 ∧ x = nI j := by
  have h := (ix_iff (x := x) (n := 256) (by omega)).mp (show (0 : Int32) ≤ x ∧ x ≤ nI 256 - 1 from hx)
  exact ix_of h (by omega)
theorem ok_type (x : Int32) : OK (X4_type x) (X5_type x) := by
  intro h ⟨L, P, Z, wd, q, R⟩
  obtain ⟨k, cx, cy, ⟨n, n1, n2, n3, n4⟩, d, i, s, z⟩ := id R
  unfold X4_type X5_type
  by_cases hx : (0 : Int32) ≤ x ∧ x ≤ 255
  · obtain ⟨c, hc, rfl⟩ := in0255 hx
    by_cases hn : n = 200
    · subst hn
      refine ⟨-3, h, h, ?_, ?_, L, P, Z, wd, q, R⟩
      · rw [X4_within_eq, b2_some, if_pos hx, if_neg (by decide)]
        unfold X2_add
        rw [n2, if_neg (by decide), b2_some, if_pos rfl]
      · rw [X5_in_eq, b2_some, if_pos hx, if_neg (by decide), n3, if_pos (by decide)]
    · refine ⟨nI (n + 1), sI (sI h 2 n (nI c)) 1 2 (nI (n + 1)), sI (sI (sI (sI h 2 n (nI c)) 1 2 (nI (n + 1))) 21 n ((nI c).toInt8.toInt32)) 20 2 (nI (n + 1)), ?_, ?_, L, P, Z, wd, q, k, ?_, ?_, ?_, ?_, ?_, ?_, ?_⟩
      · rw [X4_within_eq, b2_some, if_pos hx, if_neg (by decide)]
        unfold X2_add
        rw [n2, if_pos (show nI n < (200 : Int32) from nI_lt (b := 200) (by omega) (by omega)), st_nI (by omega) (by omega), bind_some', show (sI h 2 n (nI c)).1 1 2 = h.1 1 2 from rfl, n2, i1, nI_add, b2_some, if_neg (by decide)]
        rfl
      · rw [X5_in_eq, b2_some, if_pos hx, if_neg (by decide)]
        have e1 : (sI (sI h 2 n (nI c)) 1 2 (nI (n + 1))).1 20 2 = nI n := n3
        rw [e1, if_neg (show ¬ nI n = (200 : Int32) from fun e => hn ((nI_eq (by omega) (by omega)).mp e)), st_nI (by omega) (by omega), bind_some', pk_vb]
        rw [show (sI (sI (sI h 2 n (nI c)) 1 2 (nI (n + 1))) 21 n ((nI c).toInt8.toInt32)).1 20 2 = nI n from n3, i1, nI_add]
      · exact cx.of (fun _ _ => rfl) rfl rfl
      · exact cy.of k.1 k.2.1 rfl rfl rfl (fun _ _ => rfl) (fun _ _ => rfl)
      · refine ⟨n + 1, by omega, rfl, rfl, fun j hj => ?_⟩
        have e1 : (sI (sI (sI (sI h 2 n (nI c)) 1 2 (nI (n + 1))) 21 n ((nI c).toInt8.toInt32)) 20 2 (nI (n + 1))).1 2 = upd (h.1 2) n (nI c) := sI_o
        have e2 : (sI (sI (sI (sI h 2 n (nI c)) 1 2 (nI (n + 1))) 21 n ((nI c).toInt8.toInt32)) 20 2 (nI (n + 1))).1 21 = upd (h.1 21) n ((nI c).toInt8.toInt32) := sI_o
        rw [e1, e2]
        unfold upd
        by_cases ej : j = n
        · rw [if_pos ej, if_pos ej]; exact ⟨c, hc, rfl, rfl⟩
        · rw [if_neg ej, if_neg ej]; exact n4 j (by omega)
      · exact d.of (fun _ _ _ _ => rfl) rfl (fun _ _ _ => rfl)
      · exact i.of rfl rfl rfl rfl rfl rfl (fun _ _ _ => rfl)
      · exact s.of rfl rfl rfl rfl rfl rfl
      · exact z
  · refine ⟨-1, h, h, ?_, ?_, L, P, Z, wd, q, R⟩
    · rw [X4_within_eq, b2_some, if_neg hx, if_pos rfl]
    · rw [X5_in_eq, b2_some, if_neg hx, if_pos rfl]
theorem ok_saw (x y : Int32) : OK (X4_saw x y) (X5_saw x y) := by
  intro h ⟨L, P, Z, wd, q, R⟩
  obtain ⟨k, cx, cy, t, d, i, ⟨n, n1, n2, n3, n4⟩, z⟩ := id R
  have h6 := k.1
  have h10 := k.2.1
  unfold X4_saw X5_saw
  by_cases hx : isIx x P
  · by_cases hy : isIx y L
    · obtain ⟨w, hw, rfl⟩ := ix_of hx (by omega)
      obtain ⟨l, hl, rfl⟩ := ix_of hy (by omega)
      by_cases hn : n = 6
      · subst hn
        refine ⟨-3, h, h, ?_, ?_, L, P, Z, wd, q, R⟩
        · rw [hasPiece_eq cx k, b2_some, if_pos hx, if_neg (by decide), hasLine_eq cx k, b2_some, if_pos hy, if_neg (by decide), n2, if_neg (by decide)]
        · rw [isPiece_eq cy k, b2_some, if_pos hx, if_neg (by decide), isLine_eq cy k, b2_some, if_pos hy, if_neg (by decide), n3, if_pos (by decide)]
      · obtain ⟨h1, e1⟩ : ∃ g, g = sI (sI (sI h 18 n (nI w)) 19 n (nI l)) 0 10 (nI (n + 1)) := ⟨_, rfl⟩
        have f1 : h1.1 20 26 = nI n := by rw [e1]; exact n3
        have cy1 : CdY h1 L P Z wd q := cy.of k.1 k.2.1 (by rw [e1]; rfl) (by rw [e1]; rfl) (by rw [e1]; rfl) (fun _ _ => by rw [e1]; rfl) (fun _ _ => by rw [e1]; rfl)
        refine ⟨nI (n + 1), h1, sI (sI (sI h1 32 n (nI w)) 33 n (nI l)) 20 26 (nI (n + 1)), ?_, ?_, L, P, Z, wd, q, k, ?_, ?_, ?_, ?_, ?_, ?_, ?_⟩
        · rw [hasPiece_eq cx k, b2_some, if_pos hx, if_neg (by decide), hasLine_eq cx k, b2_some, if_pos hy, if_neg (by decide), n2, if_pos (show nI n < (6 : Int32) from nI_lt (b := 6) (by omega) (by omega)), st_nI (by omega) (by omega), bind_some']
          rw [show (sI h 18 n (nI w)).1 0 10 = nI n from n2, st_nI (by omega) (by omega), bind_some', show (sI (sI h 18 n (nI w)) 19 n (nI l)).1 0 10 = nI n from n2, i1, nI_add, e1]
        · rw [isPiece_eq cy1 k, b2_some, if_pos hx, if_neg (by decide), isLine_eq cy1 k, b2_some, if_pos hy, if_neg (by decide), f1, if_neg (show ¬ nI n = (6 : Int32) from fun e => hn ((nI_eq (by omega) (by omega)).mp e)), st_nI (by omega) (by omega), bind_some']
          rw [show (sI h1 32 n (nI w)).1 20 26 = nI n from f1, st_nI (by omega) (by omega), bind_some', show (sI (sI h1 32 n (nI w)) 33 n (nI l)).1 20 26 = nI n from f1, i1, nI_add]
        · exact cx.of (fun _ _ => by rw [e1]; rfl) (by rw [e1]; rfl) (by rw [e1]; rfl)
        · exact cy1.of k.1 k.2.1 rfl rfl rfl (fun _ _ => rfl) (fun _ _ => rfl)
        · exact t.of (by rw [e1]; rfl) (by rw [e1]; rfl) (by rw [e1]; rfl) (by rw [e1]; rfl)
        · exact d.of (fun _ _ _ _ => by rw [e1]; rfl) (by rw [e1]; rfl) (fun _ _ _ => by rw [e1]; rfl)
        · exact i.of (by rw [e1]; rfl) (by rw [e1]; rfl) (by rw [e1]; rfl) (by rw [e1]; rfl) (by rw [e1]; rfl) (by rw [e1]; rfl) (fun _ _ _ => by rw [e1]; rfl)
        · refine ⟨n + 1, by omega, by rw [e1]; rfl, rfl, fun j hj => ?_⟩
          have a1 : (sI (sI (sI h1 32 n (nI w)) 33 n (nI l)) 20 26 (nI (n + 1))).1 18 = upd (h.1 18) n (nI w) := by rw [e1]; exact sI_o
          have a2 : (sI (sI (sI h1 32 n (nI w)) 33 n (nI l)) 20 26 (nI (n + 1))).1 19 = upd (h.1 19) n (nI l) := by rw [e1]; exact sI_o
          have a3 : (sI (sI (sI h1 32 n (nI w)) 33 n (nI l)) 20 26 (nI (n + 1))).1 32 = upd (h.1 32) n (nI w) := by rw [e1]; exact sI_o
          have a4 : (sI (sI (sI h1 32 n (nI w)) 33 n (nI l)) 20 26 (nI (n + 1))).1 33 = upd (h.1 33) n (nI l) := by rw [e1]; exact sI_o
          rw [a1, a2, a3, a4]
          unfold upd
          by_cases ej : j = n
          · simp only [ej, if_pos]; exact ⟨w, l, hw, hl, rfl, rfl, rfl, rfl⟩
          · simp only [ej, if_false]; exact n4 j (by omega)
        · rw [e1]; exact z
    · refine ⟨-1, h, h, ?_, ?_, L, P, Z, wd, q, R⟩
      · rw [hasPiece_eq cx k, b2_some, if_pos hx, if_neg (by decide), hasLine_eq cx k, b2_some, if_neg hy, if_pos rfl]
      · rw [isPiece_eq cy k, b2_some, if_pos hx, if_neg (by decide), isLine_eq cy k, b2_some, if_neg hy, if_pos rfl]
  · refine ⟨-1, h, h, ?_, ?_, L, P, Z, wd, q, R⟩
    · rw [hasPiece_eq cx k, b2_some, if_neg hx, if_pos rfl]
    · rw [isPiece_eq cy k, b2_some, if_neg hx, if_pos rfl]
