section
variable {L P Z : Nat} {wd : Nat → Nat} {q : Nat → Nat → Nat}
theorem fillBy_loop (k : Cok L P Z wd q) {sz : Nat → Nat} {b c far : Nat} (hf : far ≤ 60) (hsz : ∀ l, l < L → sz l ≤ 5) (hb : b < 1024) (hc : c < 1024) : ∀ d w, w + d = P → ∀ n, d < n → ∀ (h : Hp) (t : Nat × Nat × Bool), MY h L P Z wd q sz far c → stt L (weX wd far) sz (lnX q c) b w = some t → h.1 20 20 = nI (pf b.testBit w) → LSp h t → LO h 30 L (weX wd far) sz (lnX q c) b w →
    ∃ g, X5_fillBy_l44 n (nI b) (nI t.1) (nI t.2.1) (bi t.2.2) (nI w) h = some (bi (stt L (weX wd far) sz (lnX q c) b P).isSome, g) ∧ FY h g ∧ (∀ u, stt L (weX wd far) sz (lnX q c) b P = some u → g.1 20 20 = nI (pf b.testBit P) ∧ LSp g u ∧ LO g 30 L (weX wd far) sz (lnX q c) b P) ∧ (stt L (weX wd far) sz (lnX q c) b P = none → ∃ r, r < P ∧ (stt L (weX wd far) sz (lnX q c) b r).isSome = true ∧ stt L (weX wd far) sz (lnX q c) b (r + 1) = none ∧ g.1 20 20 = nI (pf b.testBit r)) := by
  have h10 := k.2.1
  have h6 := k.1
  intro d
  induction d with
  | zero =>
    intro w hw n hn h t m et e20 ls lo
    obtain ⟨n, rfl⟩ : ∃ z, n = z + 1 := ⟨n - 1, by omega⟩
    have : w = P := by omega
    subst this
    rw [X5_fillBy_l44_s, et]
    unfold X5_fillBy_b44
    rw [m.1.2.1, if_pos (Int32.le_refl _)]
    exact ⟨h, rfl, FY.rf h, fun u hu => by cases hu; exact ⟨e20, ls, lo⟩, fun hu => by cases hu⟩
  | succ d ih =>
    intro w hw n hn h t m et e20 ls lo
    obtain ⟨n, rfl⟩ : ∃ z, n = z + 1 := ⟨n - 1, by omega⟩
    have hwP : w < P := by omega
    have es := stt_s et
    have sk := stt_ok et
    have epf : pf b.testBit (w + 1) = pf b.testBit w + (b.testBit w).toNat := rfl
    rw [X5_fillBy_l44_s]
    unfold X5_fillBy_b44
    rw [m.1.2.1, if_neg (nI_ge hwP (by omega)), nI_bit (by omega) (by omega)]
    cases eb : b.testBit w with
    | false =>
      rw [eb] at es epf
      unfold X5_fillBy_b238
      rw [(tb_iff0 b w).mpr eb, if_neg (by decide), i1, nI_add]
      refine ih (w + 1) (by omega) n (by omega) h t m es (by rw [epf]; exact e20) ls (fun v hv e => ?_)
      by_cases ev : v = w
      · subst ev; rw [eb] at e; cases e
      · exact lo v (by omega) e
    | true =>
      rw [eb] at es epf
      have es : stt L (weX wd far) sz (lnX q c) b (w + 1) = pu L (weX wd far) sz (lnX q c w) t := es
      have epf : pf b.testBit (w + 1) = pf b.testBit w + 1 := epf
      have ln := lnX_in k hwP c
      have en : X5_of (nI w) 0 h = some (nI (q w 0), h) := of5_eq (j := 0) m.1 k hwP (by omega)
      have eln : nI (q w 0) + (2 : Int32) * ((h.1 20 18 >>> (nI w &&& 31)) &&& 1) = nI (lnX q c w) := by
        rw [m.2.2.2, nI_bit (by omega) (by omega), i2, pk_mul, nI_add, Nat.mul_comm]
        rfl
      rw [(tb_iff b w).mpr eb, if_pos (by decide), en, b2_some, eln]
      -- a PIECE is put
      have good : ∀ u, pu L (weX wd far) sz (lnX q c w) t = some u → ∃ g, X5_fillBy_b210 (X5_fillBy_l44 n) (nI b) (nI u.1) (nI u.2.1) 0 (nI w) h = some (bi (stt L (weX wd far) sz (lnX q c) b P).isSome, g) ∧ FY h g ∧ (∀ u, stt L (weX wd far) sz (lnX q c) b P = some u → g.1 20 20 = nI (pf b.testBit P) ∧ LSp g u ∧ LO g 30 L (weX wd far) sz (lnX q c) b P) ∧ (stt L (weX wd far) sz (lnX q c) b P = none → ∃ r, r < P ∧ (stt L (weX wd far) sz (lnX q c) b r).isSome = true ∧ stt L (weX wd far) sz (lnX q c) b (r + 1) = none ∧ g.1 20 20 = nI (pf b.testBit r)) := by
        intro u epu
        rw [epu] at es
        obtain ⟨uk, uf⟩ := pu_ok sk epu
        have ul := (uk.2 uf).1
        unfold X5_fillBy_b210 X5_fillBy_b238
        rw [st_nI (by omega) (by omega), bind_some', show (sI h 30 w (nI u.1)).1 20 20 = h.1 20 20 from rfl, e20, i1, nI_add, nI_add]
        have e0 : (0 : Int32) = bi u.2.2 := by rw [uf]; rfl
        rw [e0]
        obtain ⟨g0, eg0⟩ : ∃ g, g = sI (sI (sI (sI h 30 w (nI u.1)) 20 20 (nI (pf b.testBit w + 1))) 20 21 (nI u.1)) 20 22 (nI u.2.1) := ⟨_, rfl⟩
        have x : FY h g0 := by
          rw [eg0]
          refine ⟨fun o q1 q2 => by simp only [sI_row, q1, q2, if_false], fun j q1 q2 q3 => ?_, rfl⟩
          simp only [sI_row, if_true, upd, q1, q2, q3, if_false, show ¬ (20 : Nat) = 30 by decide]
        rw [← eg0]
        obtain ⟨g3, a1, a2, a3, a4⟩ := ih (w + 1) (by omega) n (by omega) g0 u (x.my k m) es (by rw [eg0, epf]; rfl) (by rw [eg0]; unfold LSp; rw [uf]; exact ⟨rfl, rfl⟩) (fun v hv e => by
          by_cases ev : v = w
          · subst ev
            exact ⟨u, es, by rw [eg0]; simp only [sI_row, if_true, show ¬ (30 : Nat) = 20 by decide, if_false]; exact pk_us⟩
          · obtain ⟨u2, b1, b2⟩ := lo v (by omega) e
            exact ⟨u2, b1, by rw [eg0]; simp only [sI_row, if_true, show ¬ (30 : Nat) = 20 by decide, if_false]; rw [pk_un ev]; exact b2⟩)
        exact ⟨g3, a1, x.tr a2, a3, a4⟩
      -- on a later LINE, or nowhere
      have scan : ∀ l, l ≤ L → pu L (weX wd far) sz (lnX q c w) t = (fl L (weX wd far) sz (lnX q c w) (L - l)).map (fun l => (l, weX wd far l - lnX q c w * sz l, false)) → ∃ g, X5_fillBy_b145 (X5_fillBy_l44 n) (nI b) (nI w) (nI (lnX q c w)) (nI l) h = some (bi (stt L (weX wd far) sz (lnX q c) b P).isSome, g) ∧ FY h g ∧ (∀ u, stt L (weX wd far) sz (lnX q c) b P = some u → g.1 20 20 = nI (pf b.testBit P) ∧ LSp g u ∧ LO g 30 L (weX wd far) sz (lnX q c) b P) ∧ (stt L (weX wd far) sz (lnX q c) b P = none → ∃ r, r < P ∧ (stt L (weX wd far) sz (lnX q c) b r).isSome = true ∧ stt L (weX wd far) sz (lnX q c) b (r + 1) = none ∧ g.1 20 20 = nI (pf b.testBit r)) := by
        intro l hl ep
        unfold X5_fillBy_b145
        rw [scan5 k m hf hsz (by omega : lnX q c w ≤ 20) _ _ _ (L - l) l (by omega) fu (fu_pos (by omega))]
        cases efl : fl L (weX wd far) sz (lnX q c w) (L - l) with
        | none =>
          rw [efl] at ep
          rw [show pu L (weX wd far) sz (lnX q c w) t = none from ep] at es
          have en2 := stt_n es d
          rw [show w + 1 + d = P by omega] at en2
          rw [en2]
          exact ⟨h, rfl, FY.rf h, (fun u hu => by cases hu), fun _ => ⟨w, hwP, (by rw [et]; rfl), es, e20⟩⟩
        | some l2 =>
          rw [efl] at ep
          exact good (l2, weX wd far l2 - lnX q c w * sz l2, false) ep
      obtain ⟨l, left, first⟩ := t
      have ub : ∀ l, l < L → weX wd far l ≤ 60 := fun l hl => by
        have := k.2.2.2.2.1 l hl
        unfold weX
        split
        · rename_i z; subst z; omega
        · omega
      cases first with
      | true =>
        have l0 : l = 0 := (sk.1 rfl).1
        subst l0
        have ep : pu L (weX wd far) sz (lnX q c w) (0, left, true) = (fl L (weX wd far) sz (lnX q c w) (L - 0)).map (fun l => (l, weX wd far l - lnX q c w * sz l, false)) := by
          unfold pu
          rw [if_neg (fun z => by cases z.1)]
          rfl
        have go := scan 0 (by omega) ep
        unfold X5_fillBy_b133
        have nb : ¬ bi true = (0 : Int32) := by decide
        show ∃ g, (if h.1 22 0 ≤ nI 0 then if bi true = 0 then _ else X5_fillBy_b145 (X5_fillBy_l44 n) (nI b) (nI w) (nI (lnX q c w)) (nI 0) h else if bi true = 0 then _ else if bi true = 0 then _ else X5_fillBy_b145 (X5_fillBy_l44 n) (nI b) (nI w) (nI (lnX q c w)) (nI 0) h) = _ ∧ _
        simp only [if_neg nb]
        by_cases z : h.1 22 0 ≤ nI 0
        · rw [if_pos z]; exact go
        · rw [if_neg z]; exact go
      | false =>
        obtain ⟨z1, z2⟩ := sk.2 rfl
        have z1 : l < L := z1
        have z2 : left ≤ weX wd far l := z2
        have u60 := ub l z1
        have s5 := hsz l z1
        have m105 : (lnX q c w + 1) * sz l ≤ 21 * 5 := Nat.mul_le_mul (by omega) s5
        show ∃ g, (if h.1 22 0 ≤ nI l then _ else if bi false = 0 then (ld h 29 6 (nI l)).bind _ else _) = _ ∧ _
        rw [m.1.1, if_neg (nI_ge z1 (by omega)), if_pos (show bi false = 0 from rfl), ld_nI (by omega) (by omega), bind_some', bind_some', m.2.1 l z1, i1, nI_add, pk_mul]
        by_cases cf : (lnX q c w + 1) * sz l ≤ left
        · have ep : pu L (weX wd far) sz (lnX q c w) (l, left, false) = some (l, left - (lnX q c w + 1) * sz l, false) := by unfold pu; rw [if_pos ⟨rfl, cf⟩]
          show ∃ g, (if nI left < nI ((lnX q c w + 1) * sz l) then _ else X5_fillBy_b210 (X5_fillBy_l44 n) (nI b) (nI l) (nI left - nI ((lnX q c w + 1) * sz l)) (bi false) (nI w) h) = _ ∧ _
          rw [if_neg (nI_nlt cf (by omega)), pk_sub cf]
          exact good (l, left - (lnX q c w + 1) * sz l, false) ep
        · have ep : pu L (weX wd far) sz (lnX q c w) (l, left, false) = (fl L (weX wd far) sz (lnX q c w) (L - (l + 1))).map (fun l => (l, weX wd far l - lnX q c w * sz l, false)) := by
            unfold pu
            rw [if_neg (fun z => cf z.2)]
            rfl
          show ∃ g, (if nI left < nI ((lnX q c w + 1) * sz l) then X5_fillBy_b133 (X5_fillBy_l44 n) (nI b) (nI l) (bi false) (nI w) (nI (lnX q c w)) h else _) = _ ∧ _
          rw [if_pos (nI_lt (by omega) (by omega))]
          unfold X5_fillBy_b133
          rw [if_pos (show bi false = 0 from rfl)]
          have go := scan (l + 1) (by omega) ep
          rw [← nI_add, ← i1] at go
          exact go
theorem fillBy_Y (k : Cok L P Z wd q) {h : Hp} {sz : Nat → Nat} {b c far : Nat} (hf : far ≤ 60) (hsz : ∀ l, l < L → sz l ≤ 5) (hb : b < 1024) (hc : c < 1024) (m : MY h L P Z wd q sz far c) :
    ∃ g, X5_fillBy (nI b) h = some (bi (stt L (weX wd far) sz (lnX q c) b P).isSome, g) ∧ FY h g ∧ (∀ u, stt L (weX wd far) sz (lnX q c) b P = some u → g.1 20 20 = nI (pf b.testBit P) ∧ LSp g u ∧ LO g 30 L (weX wd far) sz (lnX q c) b P) ∧ (stt L (weX wd far) sz (lnX q c) b P = none → ∃ r, r < P ∧ (stt L (weX wd far) sz (lnX q c) b r).isSome = true ∧ stt L (weX wd far) sz (lnX q c) b (r + 1) = none ∧ g.1 20 20 = nI (pf b.testBit r)) := by
  have h6 := k.1
  have h10 := k.2.1
  obtain ⟨g0, eg0⟩ : ∃ g, g = sI (sI (sI h 20 20 0) 20 21 (-9)) 20 22 (-9) := ⟨_, rfl⟩
  have x : FY h g0 := by
    rw [eg0]
    refine ⟨fun o q1 q2 => by simp only [sI_row, q2, if_false], fun j q1 q2 q3 => ?_, rfl⟩
    simp only [sI_row, if_true, upd, q1, q2, q3, if_false]
  have m0 := x.my k m
  obtain ⟨g, a1, a2, a3, a4⟩ := fillBy_loop k hf hsz hb hc P 0 (by omega) fu (fu_pos (by omega)) g0 (0, if 0 < L then weX wd far 0 else 0, true) m0 rfl (by rw [eg0]; rfl) (by rw [eg0]; exact ⟨rfl, rfl⟩) (fun v hv => by omega)
  refine ⟨g, ?_, x.tr a2, a3, a4⟩
  unfold X5_fillBy X5_fillBy_b37
  rw [← eg0, m.1.1]
  by_cases z : 0 < L
  · rw [if_neg (show ¬ nI L ≤ (0 : Int32) from nI_nle z (by omega)), show X5_wideOf 0 g0 = some (nI (weX wd far 0), g0) from wideOf5 (l := 0) k m0 hf z, b2_some]
    rw [if_pos z] at a1
    exact a1
  · rw [if_pos (show nI L ≤ (0 : Int32) by rw [show L = 0 by omega]; decide)]
    rw [if_neg z] at a1
    exact a1
theorem allSizes_loop {s : Nat} : ∀ d l, l + d = 6 → ∀ n, d < n → ∀ h : Hp, (∀ j, j < l → h.1 29 j = nI s) → ∃ g, X5_allSizes_l2 n (nI s) (nI l) h = some g ∧ (∀ j, j < 6 → g.1 29 j = nI s) ∧ g.1 20 17 = nI 0 ∧ g.1 20 18 = nI 0 ∧ (∀ o, o ≠ 29 → o ≠ 20 → g.1 o = h.1 o) ∧ (∀ j, j ≠ 17 → j ≠ 18 → g.1 20 j = h.1 20 j) ∧ g.2 = h.2 := by
  intro d
  induction d with
  | zero =>
    intro l hl n hn h hs
    obtain ⟨n, rfl⟩ : ∃ z, n = z + 1 := ⟨n - 1, by omega⟩
    have : l = 6 := by omega
    subst this
    rw [X5_allSizes_l2_s]
    unfold X5_allSizes_b2
    rw [if_pos (by decide)]
    refine ⟨_, rfl, hs, rfl, rfl, fun o q1 q2 => by simp only [sI_row, q2, if_false], fun j q1 q2 => ?_, rfl⟩
    simp only [sI_row, if_true, upd, q1, q2, if_false]
  | succ d ih =>
    intro l hl n hn h hs
    obtain ⟨n, rfl⟩ : ∃ z, n = z + 1 := ⟨n - 1, by omega⟩
    rw [X5_allSizes_l2_s]
    unfold X5_allSizes_b2
    rw [if_neg (show ¬ (6 : Int32) ≤ nI l from nI_ge (b := 6) (by omega) (by omega)), st_nI (by omega) (by omega), bind_some', i1, nI_add]
    obtain ⟨g, a1, a2, a3, a4, a5, a6, a7⟩ := ih (l + 1) (by omega) n (by omega) (sI h 29 l (nI s)) (fun j hj => by
      rw [sI_row, if_pos rfl]
      unfold upd
      by_cases e : j = l
      · rw [if_pos e]
      · rw [if_neg e]; exact hs j (by omega))
    exact ⟨g, a1, a2, a3, a4, fun o q1 q2 => by rw [a5 o q1 q2, sI_row, if_neg q1], fun j q1 q2 => by rw [a6 j q1 q2, sI_row, if_neg (by decide)], a7⟩
/-- a size on all LINES -/
theorem allSizes_Y (k : Cok L P Z wd q) {h : Hp} (cy : CdY h L P Z wd q) (s : Nat) : ∃ g, X5_allSizes (nI s) h = some g ∧ MY g L P Z wd q (fun _ => s) 0 0 ∧ Fr h g := by
  have h6 := k.1
  obtain ⟨g, a1, a2, a3, a4, a5, a6, a7⟩ := allSizes_loop (s := s) 6 0 rfl fu (fu_pos (by omega)) h (fun j hj => by omega)
  refine ⟨g, a1, ⟨cy.of k.1 k.2.1 (by rw [a5 22 (by decide) (by decide)]) (by rw [a5 24 (by decide) (by decide)]) (by rw [a5 26 (by decide) (by decide)]) (fun j _ => by rw [a5 23 (by decide) (by decide)]) (fun j _ => by rw [a5 25 (by decide) (by decide)]), fun l hl => a2 l (by omega), a3, a4⟩, fun o j z => ?_, a7⟩
  by_cases h1 : o = 29
  · rw [h1] at z; cases z
  · by_cases h2 : o = 20
    · subst h2
      refine a6 j (fun e => ?_) (fun e => ?_) <;> (rw [e] at z; cases z)
    · rw [a5 o h1 h2]
theorem weX0 (wd : Nat → Nat) : weX wd 0 = wd := by
  funext l
  unfold weX
  by_cases e : l = 0
  · rw [if_pos e, e, Nat.sub_zero]
  · rw [if_neg e]
theorem goesOn_Y (k : Cok L P Z wd q) {h : Hp} (cy : CdY h L P Z wd q) {s b : Nat} (h5 : s ≤ 5) (hb : b < 1024) :
    ∃ g, X5_goesOn (nI s) (nI b) h = some (bi (stt L wd (fun _ => s) (lnX q 0) b P).isSome, g) ∧ Fr h g ∧ ∀ u, stt L wd (fun _ => s) (lnX q 0) b P = some u → LSp g u ∧ LO g 30 L wd (fun _ => s) (lnX q 0) b P := by
  obtain ⟨g, e, m, f⟩ := allSizes_Y k cy s
  obtain ⟨g2, e2, x, a3, -⟩ := fillBy_Y k (b := b) (by omega) (fun _ _ => h5) hb (by omega) m
  rw [weX0] at e2 a3
  unfold X5_goesOn
  rw [e, bind_some', e2, b2_some, zb_bi]
  exact ⟨g2, rfl, f.tr x.fr, fun u hu => ⟨(a3 u hu).2.1, (a3 u hu).2.2⟩⟩
theorem Fr.cdY {h g : Hp} (f : Fr h g) (k : Cok L P Z wd q) (c : CdY h L P Z wd q) : CdY g L P Z wd q := c.of k.1 k.2.1 (f.1 22 0 rfl) (f.1 24 0 rfl) (f.1 26 0 rfl) (fun j hj => f.1 23 j (by simp [sc]; omega)) (fun j hj => f.1 25 j (by simp [sc]; omega))
theorem Fr.cdX {h g : Hp} (f : Fr h g) (c : CdX h L P Z wd q) : CdX g L P Z wd q := c.of (fun j _ => f.1 4 j rfl) (f.row 5 fun _ => rfl) (f.row 6 fun _ => rfl)
end
