/-! a hand read back -/
/-- on which LINE a PIECE stands, if all go on -/
def lat (L P : Nat) (wd : Nat → Nat) (q : Nat → Nat → Nat) (s v : Nat) : Nat := ((stt L wd (fun _ => s) (lnX q 0) (2 ^ P - 1) (v + 1)).getD (0, 0, true)).1
/-- whether the first m of what was seen stand so -/
def asS (f sw sl : Nat → Nat) : Nat → Bool
  | 0 => true
  | m + 1 => asS f sw sl m && f (sw m) == sl m
/-- what was seen, as numbers, in cells a1 (PIECES) and a2 (LINES) -/
def Snn (h : Hp) (a1 a2 : Nat) (L P n : Nat) (sw sl : Nat → Nat) : Prop := ∀ i, i < n → sw i < P ∧ sl i < L ∧ h.1 a1 i = nI (sw i) ∧ h.1 a2 i = nI (sl i)
theorem SnR.num {h : Hp} {L P : Nat} (hL : L ≤ 6) (hP : P ≤ 10) (s : SnR h L P) : ∃ n sw sl, n ≤ 6 ∧ h.1 0 10 = nI n ∧ h.1 20 26 = nI n ∧ Snn h 18 19 L P n sw sl ∧ Snn h 32 33 L P n sw sl := by
  obtain ⟨n, n1, n2, n3, n4⟩ := s
  refine ⟨n, fun i => (h.1 18 i).toNatClampNeg, fun i => (h.1 19 i).toNatClampNeg, n1, n2, n3, fun i hi => ?_, fun i hi => ?_⟩
  · obtain ⟨w, l, a1, a2, a3, a4, a5, a6⟩ := n4 i hi
    have e1 : (fun i => (h.1 18 i).toNatClampNeg) i = w := by show (h.1 18 i).toNatClampNeg = w; rw [a3, nI_clamp (by omega)]
    have e2 : (fun i => (h.1 19 i).toNatClampNeg) i = l := by show (h.1 19 i).toNatClampNeg = l; rw [a5, nI_clamp (by omega)]
    exact ⟨by rw [e1]; exact a1, by rw [e2]; exact a2, by rw [e1]; exact a3, by rw [e2]; exact a5⟩
  · obtain ⟨w, l, a1, a2, a3, a4, a5, a6⟩ := n4 i hi
    have e1 : (fun i => (h.1 18 i).toNatClampNeg) i = w := by show (h.1 18 i).toNatClampNeg = w; rw [a3, nI_clamp (by omega)]
    have e2 : (fun i => (h.1 19 i).toNatClampNeg) i = l := by show (h.1 19 i).toNatClampNeg = l; rw [a5, nI_clamp (by omega)]
    exact ⟨by rw [e1]; exact a1, by rw [e2]; exact a2, by rw [e1]; exact a4, by rw [e2]; exact a6⟩
section
variable {L P Z : Nat} {wd : Nat → Nat} {q : Nat → Nat → Nat}
theorem lat_LO {h : Hp} {a s : Nat} (lo : LO h a L wd (fun _ => s) (lnX q 0) (2 ^ P - 1) P) {v : Nat} (hv : v < P) : h.1 a v = nI (lat L P wd q s v) := by
  obtain ⟨u, e1, e2⟩ := lo v hv (by rw [Nat.testBit_two_pow_sub_one]; simpa using hv)
  rw [e2]
  unfold lat
  rw [e1]
  rfl
theorem lat_lt {s v : Nat} (hok : okS L P wd q s = true) (hv : v < P) : lat L P wd q s v < 7 ∨ lat L P wd q s v < L := by
  unfold lat
  cases e : stt L wd (fun _ => s) (lnX q 0) (2 ^ P - 1) (v + 1) with
  | none => left; show (0 : Nat) < 7; omega
  | some u =>
    have := stt_ok e
    right
    show u.1 < L
    cases ef : u.2.2 with
    | false => exact (this.2 ef).1
    | true =>
      have := (stt_first e).mp ef v (by omega)
      rw [Nat.testBit_two_pow_sub_one] at this
      simp at this
      omega
theorem asSeen_loop (k : Cok L P Z wd q) {h : Hp} (cx : CdX h L P Z wd q) {n s : Nat} {sw sl : Nat → Nat} (hn : n ≤ 6) (e10 : h.1 0 10 = nI n) (sn : Snn h 18 19 L P n sw sl) (hok : okS L P wd q s = true) (lo : LO h 11 L wd (fun _ => s) (lnX q 0) (2 ^ P - 1) P) : ∀ d i, i + d = n → asS (lat L P wd q s) sw sl i = true → ∀ f, d < f → X4_isAsSeen_l2 f (nI i) h = some (bi (asS (lat L P wd q s) sw sl n), h) := by
  have h10 := k.2.1
  have h6 := k.1
  intro d
  induction d with
  | zero =>
    intro i hi ea f hf
    obtain ⟨f, rfl⟩ : ∃ z, f = z + 1 := ⟨f - 1, by omega⟩
    have : i = n := by omega
    subst this
    rw [X4_isAsSeen_l2_s]
    unfold X4_isAsSeen_b2
    rw [e10, if_pos (Int32.le_refl _), ea]
    rfl
  | succ d ih =>
    intro i hi ea f hf
    obtain ⟨f, rfl⟩ : ∃ z, f = z + 1 := ⟨f - 1, by omega⟩
    obtain ⟨a1, a2, a3, a4⟩ := sn i (by omega)
    have ll := lat_lt hok a1
    rw [X4_isAsSeen_l2_s]
    unfold X4_isAsSeen_b2
    have elp : X0_lineOfPiece (nI (sw i)) h = some (nI (lat L P wd q s (sw i)), h) := by
      unfold X0_lineOfPiece
      rw [hasPiece_eq cx k, b2_some, if_pos (ix_nI a1 (by omega)), if_neg (by decide), ld_nI (by omega) (by omega), bind_some', lat_LO lo a1]
    rw [e10, if_neg (nI_ge (by omega) (by omega)), ld_nI (by omega) (by omega), bind_some', a3, elp, b2_some, ld_nI (by omega) (by omega), bind_some', a4]
    by_cases e : lat L P wd q s (sw i) = sl i
    · rw [if_pos (by rw [e]), i1, nI_add]
      refine ih (i + 1) (by omega) ?_ f (by omega)
      show (asS (lat L P wd q s) sw sl i && lat L P wd q s (sw i) == sl i) = true
      rw [ea]
      simpa using e
    · rw [if_neg (fun z => e ((nI_eq (by omega) (by omega)).mp z))]
      have : ∀ m, i < m → asS (lat L P wd q s) sw sl m = false := by
        intro m
        induction m with
        | zero => intro h; omega
        | succ m ihm =>
          intro h
          show (asS (lat L P wd q s) sw sl m && lat L P wd q s (sw m) == sl m) = false
          by_cases em : m = i
          · subst em
            rw [show (lat L P wd q s (sw m) == sl m) = false by simpa using e, Bool.and_false]
          · rw [ihm (by omega), Bool.false_and]
      rw [this n (by omega)]
      rfl
/-- whether a size can have been -/
def szk (L P : Nat) (wd : Nat → Nat) (q : Nat → Nat → Nat) (n : Nat) (sw sl : Nat → Nat) (s : Nat) : Bool := okS L P wd q s && asS (lat L P wd q s) sw sl n
def bsz (f : Nat → Bool) (Z : Nat) : Nat → Nat
  | 0 => 0
  | m + 1 => bsz f Z m ||| (bif f (Z + m) then 2 ^ (Z + m) else 0)
theorem sizes_X (k : Cok L P Z wd q) {n : Nat} {sw sl : Nat → Nat} (hn : n ≤ 6) : ∀ d m, Z + m + d = 6 → ∀ f, d < f → ∀ h : Hp, CdX h L P Z wd q → h.1 0 10 = nI n → Snn h 18 19 L P n sw sl → ∃ g, X4_sizes_l10 f (nI (bsz (szk L P wd q n sw sl) Z m)) (nI (Z + m)) h = some (nI (bsz (szk L P wd q n sw sl) Z (m + d)), g) ∧ FX h g := by
  have p10 := p2_10 k.2.1
  have pp := Nat.one_le_two_pow (n := P)
  have z1 := k.2.2.1
  intro d
  induction d with
  | zero =>
    intro m hm f hf h cx e10 sn
    obtain ⟨f, rfl⟩ : ∃ z, f = z + 1 := ⟨f - 1, by omega⟩
    rw [X4_sizes_l10_s]
    unfold X4_sizes_b10
    rw [if_pos (show (5 : Int32) < nI (Z + m) from nI_lt (a := 5) (by omega) (by omega))]
    exact ⟨h, rfl, FX.rf h⟩
  | succ d ih =>
    intro m hm f hf h cx e10 sn
    obtain ⟨f, rfl⟩ : ∃ z, f = z + 1 := ⟨f - 1, by omega⟩
    rw [X4_sizes_l10_s]
    unfold X4_sizes_b10 X4_sizes_b47
    obtain ⟨g, eg, xg, ag⟩ := goesOn_X k cx (s := Z + m) (b := 2 ^ P - 1) (c := 0) (by omega) (by omega) (by omega) (by omega)
    have cg := xg.cd cx
    have g10 : g.1 0 10 = nI n := by rw [xg.1 0 (by decide) (by decide)]; exact e10
    have sng : Snn g 18 19 L P n sw sl := fun i hi => by rw [xg.1 18 (by decide) (by decide), xg.1 19 (by decide) (by decide)]; exact sn i hi
    rw [if_neg (show ¬ (5 : Int32) < nI (Z + m) from nI_nlt (a := 5) (by omega) (by omega)), all_X cx k, b2_some, show X0_goesOn (nI (Z + m)) (nI (2 ^ P - 1)) 0 h = _ from eg, b2_some]
    obtain ⟨g2, e2, x2⟩ := ih (m + 1) (by omega) f (by omega) g cg g10 sng
    rw [show m + 1 + d = m + (d + 1) by omega] at e2
    have hs : bsz (szk L P wd q n sw sl) Z (m + 1) = bsz (szk L P wd q n sw sl) Z m ||| (bif szk L P wd q n sw sl (Z + m) then 2 ^ (Z + m) else 0) := rfl
    have no : szk L P wd q n sw sl (Z + m) = false → X4_sizes_l10 f (nI (bsz (szk L P wd q n sw sl) Z m)) (nI (Z + m) + 1) g = some (nI (bsz (szk L P wd q n sw sl) Z (m + (d + 1))), g2) := by
      intro e
      rw [e, show (bif false then 2 ^ (Z + m) else 0) = 0 from rfl, Nat.or_zero] at hs
      rw [i1, nI_add, ← hs]
      exact e2
    have yes : szk L P wd q n sw sl (Z + m) = true → X4_sizes_l10 f (nI (bsz (szk L P wd q n sw sl) Z m) ||| ((1 : Int32) <<< (nI (Z + m) &&& 31))) (nI (Z + m) + 1) g = some (nI (bsz (szk L P wd q n sw sl) Z (m + (d + 1))), g2) := by
      intro e
      rw [e] at hs
      rw [nI_shl (by omega), nI_or, i1, nI_add, show bsz (szk L P wd q n sw sl) Z m ||| 2 ^ (Z + m) = bsz (szk L P wd q n sw sl) Z (m + 1) from hs.symm]
      exact e2
    show ∃ g1, (if bi (okS L P wd q (Z + m)) = 0 then _ else _) = _ ∧ _
    cases eo : okS L P wd q (Z + m) with
    | false =>
      rw [if_pos (show bi false = 0 from rfl), no (by unfold szk; rw [eo]; rfl)]
      exact ⟨g2, rfl, xg.tr x2⟩
    | true =>
      have lo : LO g 11 L wd (fun _ => Z + m) (lnX q 0) (2 ^ P - 1) P := by
        unfold okS at eo
        cases est : stt L wd (fun _ => Z + m) (lnX q 0) (2 ^ P - 1) P with
        | none => rw [est] at eo; cases eo
        | some u => exact (ag u est).2
      have ea := asSeen_loop k cg hn g10 sng eo lo n 0 (by omega) rfl fu (fu_pos (by omega))
      rw [if_neg (by decide), show X4_isAsSeen g = _ from ea, b2_some]
      cases es : asS (lat L P wd q (Z + m)) sw sl n with
      | false =>
        rw [if_pos (show bi false = 0 from rfl), no (by unfold szk; rw [eo, es]; rfl)]
        exact ⟨g2, rfl, xg.tr x2⟩
      | true =>
        rw [if_neg (by decide), yes (by unfold szk; rw [eo, es]; rfl)]
        exact ⟨g2, rfl, xg.tr x2⟩
theorem seen5_loop (k : Cok L P Z wd q) {h : Hp} {n s : Nat} {sw sl : Nat → Nat} (hn : n ≤ 6) (e26 : h.1 20 26 = nI n) (sn : Snn h 32 33 L P n sw sl) (hok : okS L P wd q s = true) (lo : LO h 30 L wd (fun _ => s) (lnX q 0) (2 ^ P - 1) P) (K9 : Int32 → Int32 → Hp → Option (Int32 × Hp)) (x1 x2 : Int32) : ∀ d i, i + d = n → ∀ f, d < f → X5_sizes_l27 K9 f x1 x2 (bi (asS (lat L P wd q s) sw sl i)) (nI i) h = X5_sizes_b74 K9 x1 x2 (bi (asS (lat L P wd q s) sw sl n)) h := by
  have h10 := k.2.1
  have h6 := k.1
  intro d
  induction d with
  | zero =>
    intro i hi f hf
    obtain ⟨f, rfl⟩ : ∃ z, f = z + 1 := ⟨f - 1, by omega⟩
    have : i = n := by omega
    subst this
    rw [X5_sizes_l27_s]
    unfold X5_sizes_b27
    rw [e26, if_pos (Int32.le_refl _)]
  | succ d ih =>
    intro i hi f hf
    obtain ⟨f, rfl⟩ : ∃ z, f = z + 1 := ⟨f - 1, by omega⟩
    obtain ⟨a1, a2, a3, a4⟩ := sn i (by omega)
    have ll := lat_lt hok a1
    rw [X5_sizes_l27_s]
    unfold X5_sizes_b27
    rw [e26, if_neg (nI_ge (by omega) (by omega))]
    cases ea : asS (lat L P wd q s) sw sl i with
    | false =>
      have : ∀ m, i ≤ m → asS (lat L P wd q s) sw sl m = false := by
        intro m
        induction m with
        | zero => intro h; rw [show 0 = i by omega]; exact ea
        | succ m ihm =>
          intro h
          by_cases em : i = m + 1
          · rw [← em]; exact ea
          · show (asS (lat L P wd q s) sw sl m && _) = false
            rw [ihm (by omega), Bool.false_and]
      rw [if_pos (show bi false = 0 from rfl), this n (by omega)]
    | true =>
      rw [if_neg (by decide), ld_nI (by omega) (by omega), bind_some', a3, ld_nI (by omega) (by omega), bind_some', lat_LO lo a1, ld_nI (by omega) (by omega), bind_some', a4]
      unfold X5_sizes_b67
      have ih2 := ih (i + 1) (by omega) f (by omega)
      have hs : asS (lat L P wd q s) sw sl (i + 1) = (lat L P wd q s (sw i) == sl i) := by
        show (asS (lat L P wd q s) sw sl i && _) = _
        rw [ea, Bool.true_and]
      rw [hs] at ih2
      by_cases e : lat L P wd q s (sw i) = sl i
      · rw [if_pos (by rw [e]), i1, nI_add]
        rw [show (lat L P wd q s (sw i) == sl i) = true by simpa using e] at ih2
        exact ih2
      · rw [if_neg (fun z => e ((nI_eq (by omega) (by omega)).mp z)), i1, nI_add]
        rw [show (lat L P wd q s (sw i) == sl i) = false by simpa using e] at ih2
        exact ih2
theorem sizes_Y (k : Cok L P Z wd q) {n : Nat} {sw sl : Nat → Nat} (hn : n ≤ 6) : ∀ d m, Z + m + d = 6 → ∀ f, d < f → ∀ h : Hp, CdY h L P Z wd q → h.1 20 26 = nI n → Snn h 32 33 L P n sw sl → ∃ g, X5_sizes_l9 f (nI (bsz (szk L P wd q n sw sl) Z m)) (nI (Z + m)) h = some (nI (bsz (szk L P wd q n sw sl) Z (m + d)), g) ∧ Fr h g := by
  have p10 := p2_10 k.2.1
  have pp := Nat.one_le_two_pow (n := P)
  have z1 := k.2.2.1
  intro d
  induction d with
  | zero =>
    intro m hm f hf h cy e26 sn
    obtain ⟨f, rfl⟩ : ∃ z, f = z + 1 := ⟨f - 1, by omega⟩
    rw [X5_sizes_l9_s]
    unfold X5_sizes_b9
    rw [if_pos (show (5 : Int32) < nI (Z + m) from nI_lt (a := 5) (by omega) (by omega))]
    exact ⟨h, rfl, Fr.rf h⟩
  | succ d ih =>
    intro m hm f hf h cy e26 sn
    obtain ⟨f, rfl⟩ : ∃ z, f = z + 1 := ⟨f - 1, by omega⟩
    rw [X5_sizes_l9_s]
    unfold X5_sizes_b9
    obtain ⟨g, eg, fg, ag⟩ := goesOn_Y k cy (s := Z + m) (b := 2 ^ P - 1) (by omega) (by omega)
    have cg := fg.cdY k cy
    have g26 : g.1 20 26 = nI n := by rw [fg.1 20 26 rfl]; exact e26
    have sng : Snn g 32 33 L P n sw sl := fun i hi => by rw [fg.row 32 (fun _ => rfl), fg.row 33 (fun _ => rfl)]; exact sn i hi
    rw [if_neg (show ¬ (5 : Int32) < nI (Z + m) from nI_nlt (a := 5) (by omega) (by omega)), all_Y cy k, b2_some, eg, b2_some]
    obtain ⟨g2, e2, x2⟩ := ih (m + 1) (by omega) f (by omega) g cg g26 sng
    rw [show m + 1 + d = m + (d + 1) by omega] at e2
    have hs : bsz (szk L P wd q n sw sl) Z (m + 1) = bsz (szk L P wd q n sw sl) Z m ||| (bif szk L P wd q n sw sl (Z + m) then 2 ^ (Z + m) else 0) := rfl
    have fin : ∀ t : Bool, t = szk L P wd q n sw sl (Z + m) → X5_sizes_b74 (X5_sizes_l9 f) (nI (bsz (szk L P wd q n sw sl) Z m)) (nI (Z + m)) (bi t) g = some (nI (bsz (szk L P wd q n sw sl) Z (m + (d + 1))), g2) := by
      intro t et
      rw [← et] at hs
      unfold X5_sizes_b74 X5_sizes_b86
      cases t with
      | false =>
        rw [show (bif false then 2 ^ (Z + m) else 0) = 0 from rfl] at hs
        rw [if_pos (show bi false = 0 from rfl), i0, nI_or, i1, nI_add, ← hs]
        exact e2
      | true =>
        rw [if_neg (by decide), nI_shl (by omega), nI_or, i1, nI_add, show bsz (szk L P wd q n sw sl) Z m ||| 2 ^ (Z + m) = bsz (szk L P wd q n sw sl) Z (m + 1) from hs.symm]
        exact e2
    show ∃ g1, X5_sizes_l27 (X5_sizes_l9 f) fu _ _ (bi (okS L P wd q (Z + m))) 0 g = _ ∧ _
    cases eo : okS L P wd q (Z + m) with
    | false =>
      have e3 : X5_sizes_l27 (X5_sizes_l9 f) fu (nI (bsz (szk L P wd q n sw sl) Z m)) (nI (Z + m)) (bi false) 0 g = X5_sizes_b74 (X5_sizes_l9 f) (nI (bsz (szk L P wd q n sw sl) Z m)) (nI (Z + m)) (bi false) g := by
        obtain ⟨z, hz⟩ : ∃ z, fu = z + 1 := ⟨fu - 1, by rw [fu_eq]⟩
        rw [hz, X5_sizes_l27_s]
        unfold X5_sizes_b27
        by_cases c : g.1 20 26 ≤ 0
        · rw [if_pos c]
        · rw [if_neg c, if_pos (show bi false = 0 from rfl)]
      rw [e3, fin false (by unfold szk; rw [eo]; rfl)]
      exact ⟨g2, rfl, fg.tr x2⟩
    | true =>
      have lo : LO g 30 L wd (fun _ => Z + m) (lnX q 0) (2 ^ P - 1) P := by
        unfold okS at eo
        cases est : stt L wd (fun _ => Z + m) (lnX q 0) (2 ^ P - 1) P with
        | none => rw [est] at eo; cases eo
        | some u => exact (ag u est).2
      have ea := seen5_loop k hn g26 sng eo lo (X5_sizes_l9 f) (nI (bsz (szk L P wd q n sw sl) Z m)) (nI (Z + m)) n 0 (by omega) fu (fu_pos (by omega))
      rw [show X5_sizes_l27 (X5_sizes_l9 f) fu (nI (bsz (szk L P wd q n sw sl) Z m)) (nI (Z + m)) (bi true) 0 g = _ from ea, fin _ (by unfold szk; rw [eo, Bool.true_and])]
      exact ⟨g2, rfl, fg.tr x2⟩
end
theorem ok_sizes : OK X4_sizes X5_sizes := by
  intro h ⟨L, P, Z, wd, q, R⟩
  obtain ⟨k, cx, cy, -, -, -, sn, -⟩ := id R
  have z5 := k.2.2.2.1
  obtain ⟨n, sw, sl, n1, n2, n3, n4, n5⟩ := sn.num k.1 k.2.1
  obtain ⟨g, e, x⟩ := sizes_X k n1 (6 - Z) 0 (by omega) fu (fu_pos (by omega)) h cx n2 n4
  have f := x.fr
  obtain ⟨g2, e2, f2⟩ := sizes_Y k n1 (6 - Z) 0 (by omega) fu (fu_pos (by omega)) g (f.cdY k cy) (by rw [f.1 20 26 rfl]; exact n3) (fun i hi => by rw [f.row 32 (fun _ => rfl), f.row 33 (fun _ => rfl)]; exact n5 i hi)
  refine ⟨nI (bsz (szk L P wd q n sw sl) Z (0 + (6 - Z))), g, g2, ?_, ?_, L, P, Z, wd, q, R.fr (f.tr f2)⟩
  · unfold X4_sizes
    rw [cx.2.2.1]
    exact e
  · unfold X5_sizes
    rw [(f.cdY k cy).2.2.1]
    exact e2
