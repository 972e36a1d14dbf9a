section
variable {L P Z : Nat} {wd : Nat → Nat} {q : Nat → Nat → Nat}
/-- what costOf may change -/
def FC (h g : Hp) : Prop := (∀ o, o ≠ 29 → o ≠ 20 → g.1 o = h.1 o) ∧ (∀ j, j ≠ 17 → j ≠ 18 → g.1 20 j = h.1 20 j) ∧ g.2 = h.2
theorem FC.fr {h g : Hp} (x : FC h g) : Fr h g := ⟨fun o j z => by
  by_cases h1 : o = 29
  · rw [h1] at z; cases z
  · by_cases h2 : o = 20
    · subst h2
      refine x.2.1 j (fun e => ?_) (fun e => ?_) <;> (rw [e] at z; cases z)
    · rw [x.1 o h1 h2], x.2.2⟩
theorem cost_loop {sz : Nat → Nat} (k : Cok L P Z wd q) {h : Hp} (cy : CdY h L P Z wd q) (hs : ∀ l, l < L → h.1 29 l = nI (sz l)) (h5 : ∀ l, sz l ≤ 5) : ∀ d l, l + d = L → ∀ c, cst Z sz l = some c → ∀ n, d < n → X5_costOf_l51 n (nI c) (nI l) h = some (gv (cst Z sz L), h) := by
  have h6 := k.1
  have z5 := k.2.2.2.1
  intro d
  induction d with
  | zero =>
    intro l hl c ec n hn
    obtain ⟨n, rfl⟩ : ∃ z, n = z + 1 := ⟨n - 1, by omega⟩
    have : l = L := by omega
    subst this
    rw [X5_costOf_l51_s]
    unfold X5_costOf_b51
    rw [cy.1, if_pos (Int32.le_refl _), ec]
    rfl
  | succ d ih =>
    intro l hl c ec n hn
    obtain ⟨n, rfl⟩ : ∃ z, n = z + 1 := ⟨n - 1, by omega⟩
    have hlL : l < L := by omega
    have s5 := h5 l
    have s5' := h5 (l - 1)
    have hstep : cst Z sz (l + 1) = if sz l < Z ∨ (0 < l ∧ sz (l - 1) < sz l) then none else some (c + if l = 0 then 0 else (sz (l - 1) - sz l) * (sz (l - 1) - sz l)) := by
      show (cst Z sz l).bind _ = _
      rw [ec]
      rfl
    have bad : cst Z sz (l + 1) = none → cst Z sz L = none := by
      intro e
      have : ∀ m, cst Z sz (l + 1 + m) = none := by
        intro m
        induction m with
        | zero => exact e
        | succ m ihm => show (cst Z sz (l + 1 + m)).bind _ = none; rw [ihm]; rfl
      have := this d
      rw [show l + 1 + d = L by omega] at this
      exact this
    rw [X5_costOf_l51_s]
    unfold X5_costOf_b51
    rw [cy.1, if_neg (nI_ge hlL (by omega)), ld_nI (by omega) (by omega), bind_some', hs l hlL, cy.2.2.1]
    by_cases c1 : sz l < Z
    · rw [if_pos (nI_lt c1 (by omega)), bad (by rw [hstep, if_pos (Or.inl c1)])]
      rfl
    · rw [if_neg (nI_nlt (by omega) (by omega))]
      unfold X5_costOf_b105 X5_costOf_b131
      by_cases l0 : l = 0
      · subst l0
        rw [if_pos (by decide), if_pos (by decide)]
        have e2 := ih 1 (by omega) c (by rw [hstep, if_neg (by omega), if_pos rfl]; rfl) n (by omega)
        rw [show nI c + (0 : Int32) * 0 = nI c by rw [i0, pk_mul, nI_add]; rfl, show nI 0 + (1 : Int32) = nI 1 from rfl]
        exact e2
      · have hl1 : l - 1 < L := by omega
        have ep : nI l - 1 = nI (l - 1) := by rw [i1, pk_sub (by omega)]
        rw [if_neg (show ¬ nI l ≤ (0 : Int32) from nI_nle (by omega) (by omega)), bind_some', ep, ld_nI (by omega) (by omega), bind_some', hs (l - 1) hl1]
        by_cases c2 : sz l ≤ sz (l - 1)
        · rw [if_pos (nI_le c2 (by omega)), if_neg (show ¬ nI l = (0 : Int32) from nI_ne0 (by omega) (by omega)), ld_nI (by omega) (by omega), hs l hlL, bind_some', bind_some', pk_sub c2, pk_mul, nI_add, i1, nI_add]
          exact ih (l + 1) (by omega) _ (by rw [hstep, if_neg (by omega), if_neg l0]) n (by omega)
        · rw [if_neg (nI_ge (by omega) (by omega)), bad (by rw [hstep, if_pos (Or.inr ⟨by omega, by omega⟩)])]
          rfl
theorem nI_dec (m : Nat) : nI (m + 1) - 1 + -1 = nI m - 1 := by
  rw [nI_pred, Int32.sub_eq_add_neg]
theorem size_loop {code : Nat} (hcode : code < 2 ^ 30) (k : Cok L P Z wd q) : ∀ m, m ≤ L → ∀ n, m < n → ∀ h : Hp, CdY h L P Z wd q → (∀ j, m ≤ j → j < L → h.1 29 j = nI (dg L code j)) → ∃ g, X5_costOf_l11 n (nI (code / 5 ^ (L - m))) (nI m - 1) h = some (gv (cst Z (dg L code) L), g) ∧ FC h g ∧ MY g L P Z wd q (dg L code) 0 0 := by
  have h6 := k.1
  intro m
  induction m with
  | zero =>
    intro _ n hn h cy hs
    obtain ⟨n, rfl⟩ : ∃ z, n = z + 1 := ⟨n - 1, by omega⟩
    rw [X5_costOf_l11_s]
    unfold X5_costOf_b11
    rw [if_pos (by decide)]
    have x : FC h (sI (sI h 20 17 0) 20 18 0) := ⟨fun o q1 q2 => by simp only [sI_row, q2, if_false], fun j q1 q2 => by simp only [sI_row, if_true, upd, q1, q2, if_false], rfl⟩
    have cy2 := x.fr.cdY k cy
    have hs2 : ∀ l, l < L → (sI (sI h 20 17 0) 20 18 0).1 29 l = nI (dg L code l) := fun l hl => hs l (by omega) hl
    refine ⟨_, cost_loop k cy2 hs2 (dg_le L code) L 0 (by omega) 0 rfl fu (fu_pos (by omega)), x, cy2, hs2, rfl, rfl⟩
  | succ m ih =>
    intro hm n hn h cy hs
    obtain ⟨n, rfl⟩ : ∃ z, n = z + 1 := ⟨n - 1, by omega⟩
    rw [X5_costOf_l11_s]
    unfold X5_costOf_b11
    have cl : code / 5 ^ (L - (m + 1)) < 2 ^ 30 := Nat.lt_of_le_of_lt (Nat.div_le_self _ _) hcode
    have m5 : code / 5 ^ (L - (m + 1)) % 5 < 5 := Nat.mod_lt _ (by omega)
    have ed : 5 - code / 5 ^ (L - (m + 1)) % 5 = dg L code m := by unfold dg; rw [show L - (m + 1) = L - 1 - m by omega]
    have edv : code / 5 ^ (L - (m + 1)) / 5 = code / 5 ^ (L - m) := by
      rw [Nat.div_div_eq_div_mul, ← Nat.pow_succ, show (L - (m + 1)).succ = L - m by omega]
    rw [nI_dec, nI_pred, if_neg (show ¬ nI m < (0 : Int32) from nI_pos (by omega)), i5, pk_rem (by omega) (by omega) (by omega), pk_sub (by omega), ed, st_nI (by omega) (by omega), bind_some', pk_div (by omega) (by omega) (by omega), edv]
    have x0 : FC h (sI h 29 m (nI (dg L code m))) := ⟨fun o q1 q2 => by rw [sI_row, if_neg q1], fun j q1 q2 => by rw [sI_row, if_neg (by decide)], rfl⟩
    obtain ⟨g, e, x, my⟩ := ih (by omega) n (by omega) (sI h 29 m (nI (dg L code m))) (x0.fr.cdY k cy) (fun j h1 h2 => by
      rw [sI_row, if_pos rfl]
      unfold upd
      by_cases ej : j = m
      · rw [if_pos ej, ej]
      · rw [if_neg ej]; exact hs j (by omega) h2)
    exact ⟨g, e, ⟨fun o q1 q2 => (x.1 o q1 q2).trans (x0.1 o q1 q2), fun j q1 q2 => (x.2.1 j q1 q2).trans (x0.2.1 j q1 q2), x.2.2⟩, my⟩
theorem costOf_Y {code : Nat} (hcode : code < 2 ^ 30) (k : Cok L P Z wd q) {h : Hp} (cy : CdY h L P Z wd q) : ∃ g, X5_costOf (nI code) h = some (gv (cst Z (dg L code) L), g) ∧ FC h g ∧ MY g L P Z wd q (dg L code) 0 0 := by
  have h6 := k.1
  have := size_loop hcode k L (Nat.le_refl L) fu (fu_pos (by omega)) h cy (fun j h1 h2 => by omega)
  rw [Nat.sub_self, Nat.pow_zero, Nat.div_one] at this
  unfold X5_costOf
  rw [cy.1]
  exact this
theorem copyS_loop (k : Cok L P Z wd q) {code : Nat} (K45 : Int32 → Int32 → Int32 → Int32 → Hp → Option (Int32 × Hp)) (x1 x2 x3 x4 : Int32) : ∀ d i, i + d = L → ∀ n, d < n → ∀ h : Hp, CdY h L P Z wd q → (∀ l, l < L → h.1 29 l = nI (dg L code l)) → (∀ l, l < i → h.1 31 l = nI (dg L code l)) → ∃ g, X5_even_l95 K45 n x1 x2 x3 x4 (nI i) h = K45 x1 x2 x3 (x4 + 1) g ∧ Fr h g ∧ ∀ l, l < L → g.1 31 l = nI (dg L code l) := by
  have h6 := k.1
  intro d
  induction d with
  | zero =>
    intro i hi n hn h cy hs h31
    obtain ⟨n, rfl⟩ : ∃ z, n = z + 1 := ⟨n - 1, by omega⟩
    have : i = L := by omega
    subst this
    rw [X5_even_l95_s]
    unfold X5_even_b95 X5_even_b126
    rw [cy.1, if_pos (Int32.le_refl _)]
    exact ⟨h, rfl, Fr.rf h, h31⟩
  | succ d ih =>
    intro i hi n hn h cy hs h31
    obtain ⟨n, rfl⟩ : ∃ z, n = z + 1 := ⟨n - 1, by omega⟩
    rw [X5_even_l95_s]
    unfold X5_even_b95
    rw [cy.1, if_neg (nI_ge (by omega) (by omega)), ld_nI (by omega) (by omega), bind_some', hs i (by omega), st_nI (by omega) (by omega), bind_some', i1, nI_add]
    have f0 := (Fr.rf h).s 31 i (nI (dg L code i)) rfl
    obtain ⟨g, e, f, a⟩ := ih (i + 1) (by omega) n (by omega) (sI h 31 i (nI (dg L code i))) (f0.cdY k cy) (fun l hl => hs l hl) (fun l hl => by
      rw [sI_row, if_pos rfl]
      unfold upd
      by_cases el : l = i
      · rw [if_pos el, el]
      · rw [if_neg el]; exact h31 l (by omega))
    exact ⟨g, e, f0.tr f, a⟩
def bv (o : Option (Nat × Nat)) : Int32 := match o with
  | none => -9
  | some x => nI x.1
def b31 (g : Hp) (L : Nat) (o : Option (Nat × Nat)) : Prop := match o with
  | none => True
  | some x => x.1 ≤ 150 ∧ ∀ l, l < L → g.1 31 l = nI (dg L x.2 l)
theorem nI_m9 {n : Nat} (h : n < 2 ^ 31) : ¬ nI n = (-9 : Int32) := fun z => by
  have : (nI n).toInt = (-9 : Int32).toInt := congrArg Int32.toInt z
  rw [nI_toInt h] at this
  have e9 : (-9 : Int32).toInt = -9 := by decide
  omega
theorem even_loop (k : Cok L P Z wd q) (x1 : Int32) : ∀ d code, code + d = 5 ^ L → ∀ n, d < n → ∀ (h : Hp) (o : Option (Nat × Nat)), CdY h L P Z wd q → BI L P Z wd q code o → b31 h L o → ∃ g o2, Fr h g ∧ BI L P Z wd q (5 ^ L) o2 ∧ b31 g L o2 ∧ X5_even_l45 n x1 (nI (5 ^ L)) (bv o) (nI code) h = (if bv o2 = -9 then some (bv o2, g) else if x1 = -1 then some (bv o2, g) else (ld g 31 6 x1).bind fun v9 => some (v9, g)) := by
  have h6 := k.1
  have h10 := k.2.1
  have p10 := p2_10 h10
  have pp := Nat.one_le_two_pow (n := P)
  have p5 : 5 ^ L ≤ 5 ^ 6 := Nat.pow_le_pow_right (by omega) h6
  have p56 : 5 ^ 6 = 15625 := by decide
  intro d
  induction d with
  | zero =>
    intro code hc n hn h o cy bi0 b0
    obtain ⟨n, rfl⟩ : ∃ z, n = z + 1 := ⟨n - 1, by omega⟩
    have : code = 5 ^ L := by omega
    subst this
    rw [X5_even_l45_s]
    unfold X5_even_b45
    rw [if_pos (Int32.le_refl _)]
    exact ⟨h, o, Fr.rf h, bi0, b0, rfl⟩
  | succ d ih =>
    intro code hc n hn h o cy bi0 b0
    obtain ⟨n, rfl⟩ : ∃ z, n = z + 1 := ⟨n - 1, by omega⟩
    obtain ⟨g, eg, xg, mg⟩ := costOf_Y (code := code) (by omega) k cy
    have fg := xg.fr
    have cg := mg.1
    have b31g : b31 g L o := by
      cases o with
      | none => trivial
      | some x => exact ⟨b0.1, fun l hl => by rw [xg.1 31 (by decide) (by decide)]; exact b0.2 l hl⟩
    rw [X5_even_l45_s]
    unfold X5_even_b45
    rw [if_neg (nI_ge (by omega) (by omega)), eg, b2_some]
    -- the best stays
    have keep : ∀ g2 : Hp, Fr h g2 → b31 g2 L o → BI L P Z wd q (code + 1) o → ∃ g3 o2, Fr h g3 ∧ BI L P Z wd q (5 ^ L) o2 ∧ b31 g3 L o2 ∧ X5_even_b126 (X5_even_l45 n) x1 (nI (5 ^ L)) (bv o) (nI code) g2 = (if bv o2 = -9 then some (bv o2, g3) else if x1 = -1 then some (bv o2, g3) else (ld g3 31 6 x1).bind fun v9 => some (v9, g3)) := by
      intro g2 f2 bb2 bi2
      unfold X5_even_b126
      rw [i1, nI_add]
      obtain ⟨g3, o2, a1, a2, a3, a4⟩ := ih (code + 1) (by omega) n (by omega) g2 o (f2.cdY k cy) bi2 bb2
      exact ⟨g3, o2, f2.tr a1, a2, a3, a4⟩
    have biN : (∀ c, fea L P Z wd q code c → ∃ x, o = some x ∧ x.1 ≤ c) → BI L P Z wd q (code + 1) o := by
      intro hh
      cases o with
      | none =>
        intro c2 c hc2 hf
        by_cases e : c2 = code
        · subst e; obtain ⟨x, hx, -⟩ := hh c hf; cases hx
        · exact bi0 c2 c (by omega) hf
      | some x =>
        obtain ⟨a1, a2, a3⟩ := bi0
        refine ⟨by omega, a2, fun c2 c hc2 hf => ?_⟩
        by_cases e : c2 = code
        · subst e
          obtain ⟨y, hy, hle⟩ := hh c hf
          cases hy
          omega
        · exact a3 c2 c (by omega) hf
    cases ec : cst Z (dg L code) L with
    | none =>
      rw [if_pos (show gv none = -9 from rfl)]
      exact keep g fg b31g (biN (fun c hf => by have := hf.1; rw [ec] at this; cases this))
    | some c =>
      have cle := cst_le (dg_le L code) ec
      rw [if_neg (show ¬ gv (some c) = -9 from nI_m9 (by omega))]
      -- a better one, if all goes on
      have try_ : (∀ x, o = some x → c < x.1) → ∃ g3 o2, Fr h g3 ∧ BI L P Z wd q (5 ^ L) o2 ∧ b31 g3 L o2 ∧ X5_even_b78 (X5_even_l45 n) x1 (nI (5 ^ L)) (bv o) (nI code) (gv (some c)) g = (if bv o2 = -9 then some (bv o2, g3) else if x1 = -1 then some (bv o2, g3) else (ld g3 31 6 x1).bind fun v9 => some (v9, g3)) := by
        intro hlt
        unfold X5_even_b78
        obtain ⟨g2, e2, x2, -⟩ := fillBy_Y k (b := 2 ^ P - 1) (by omega) (fun l _ => dg_le L code l) (by omega) (by omega) mg
        rw [weX0] at e2
        rw [all_Y cg k, b2_some, e2, b2_some]
        have f2 := fg.tr x2.fr
        have m2 := x2.my k mg
        cases es : stt L wd (dg L code) (lnX q 0) (2 ^ P - 1) P with
        | none =>
          rw [if_pos (show bi (none : Option (Nat × Nat × Bool)).isSome = 0 from rfl)]
          refine keep g2 f2 ?_ (biN (fun c2 hf => by have := hf.2; rw [es] at this; cases this))
          cases o with
          | none => trivial
          | some x => exact ⟨b0.1, fun l hl => by rw [x2.1 31 (by decide) (by decide)]; exact b31g.2 l hl⟩
        | some u =>
          rw [if_neg (show ¬ bi (some u).isSome = 0 from (by decide : ¬ bi true = 0))]
          obtain ⟨g3, e3, f3, a3⟩ := copyS_loop k (code := code) (X5_even_l45 n) x1 (nI (5 ^ L)) (gv (some c)) (nI code) L 0 (by omega) fu (fu_pos (by omega)) g2 m2.1 m2.2.1 (fun l hl => by omega)
          rw [show X5_even_l95 (X5_even_l45 n) fu x1 (nI (5 ^ L)) (gv (some c)) (nI code) 0 g2 = _ from e3, i1, nI_add]
          have fe : fea L P Z wd q code c := ⟨ec, by rw [es]; rfl⟩
          have biY : BI L P Z wd q (code + 1) (some (c, code)) := by
            refine ⟨by show code < code + 1; omega, fe, fun c2 cc hc2 hf => ?_⟩
            by_cases e : c2 = code
            · subst e
              have := hf.1.symm.trans fe.1
              cases this
              right
              exact ⟨rfl, Nat.le_refl _⟩
            · left
              show c < cc
              cases o with
              | none => exact absurd hf (bi0 c2 cc (by omega))
              | some x =>
                have h1 := hlt x rfl
                have h2 := bi0.2.2 c2 cc (by omega) hf
                omega
          obtain ⟨g4, o2, a1, a2, a3', a4⟩ := ih (code + 1) (by omega) n (by omega) g3 (some (c, code)) (f3.cdY k m2.1) biY ⟨by show c ≤ 150; omega, a3⟩
          exact ⟨g4, o2, (f2.tr f3).tr a1, a2, a3', a4⟩
      cases o with
      | none =>
        rw [if_pos (show bv none = -9 from rfl)]
        exact try_ (fun x hx => by cases hx)
      | some x =>
        have xb : x.1 ≤ 150 := b0.1
        rw [if_neg (show ¬ bv (some x) = -9 from nI_m9 (show x.1 < 2 ^ 31 by omega))]
        by_cases cl : x.1 ≤ c
        · rw [if_pos (show bv (some x) ≤ gv (some c) from nI_le cl (by omega))]
          refine keep g fg b31g (biN (fun c2 hf => ⟨x, rfl, ?_⟩))
          have := hf.1
          rw [ec] at this
          cases this
          exact cl
        · rw [if_neg (show ¬ bv (some x) ≤ gv (some c) from nI_ge (by omega) (by omega))]
          exact try_ (fun y hy => by cases hy; omega)
theorem codes_loop (k : Cok L P Z wd q) {h : Hp} (cy : CdY h L P Z wd q) (x1 : Int32) : ∀ d i, i + d = L → ∀ n, d < n → X5_even_l19 n x1 (nI (5 ^ i)) (nI i) h = X5_even_l45 fu x1 (nI (5 ^ L)) (-9) 0 h := by
  have h6 := k.1
  intro d
  induction d with
  | zero =>
    intro i hi n hn
    obtain ⟨n, rfl⟩ : ∃ z, n = z + 1 := ⟨n - 1, by omega⟩
    have : i = L := by omega
    subst this
    rw [X5_even_l19_s]
    unfold X5_even_b19
    rw [cy.1, if_pos (Int32.le_refl _)]
  | succ d ih =>
    intro i hi n hn
    obtain ⟨n, rfl⟩ : ∃ z, n = z + 1 := ⟨n - 1, by omega⟩
    rw [X5_even_l19_s]
    unfold X5_even_b19
    rw [cy.1, if_neg (nI_ge (by omega) (by omega)), i5, pk_mul, i1, nI_add, ← Nat.pow_succ]
    exact ih (i + 1) (by omega) n (by omega)
end
theorem ok_even (x : Int32) : OK (X4_even x) (X5_even x) := by
  intro h ⟨L, P, Z, wd, q, R⟩
  obtain ⟨k, cx, cy, -⟩ := id R
  have h6 := k.1
  obtain ⟨g, e, xg⟩ := greatest_X k cx
  have fg := xg.fr
  have cg := fg.cdY k cy
  have p5 : 5 ^ L ≤ 5 ^ 6 := Nat.pow_le_pow_right (by omega) h6
  have p56 : 5 ^ 6 = 15625 := by decide
  obtain ⟨g2, o2, f2, b2', b3, e2⟩ := even_loop k x (5 ^ L) 0 (by omega) fu (fu_pos (by omega)) g none cg (fun c2 c hc2 => by omega) trivial
  have e19 := codes_loop k cg x L 0 (by omega) fu (fu_pos (by omega))
  have eb : X5_even_b15 x g = (if bv o2 = -9 then some (bv o2, g2) else if x = -1 then some (bv o2, g2) else (ld g2 31 6 x).bind fun v9 => some (v9, g2)) := by
    unfold X5_even_b15
    exact e19.trans e2
  have be := BI_end k b2'
  have R2 := R.fr (fg.tr f2)
  unfold X4_even X5_even
  have main : (x = -1 ∨ ∃ l, l < L ∧ x = nI l) → ∃ r, X4_even_b18 x h = some (r, g) ∧ X5_even_b15 x g = some (r, g2) := by
    intro hx
    unfold X4_even_b18
    rw [e, b2_some, eb]
    cases eg : gre (okS L P wd q) Z 5 with
    | none =>
      rw [eg] at be
      have be : o2 = none := be
      subst be
      refine ⟨-9, ?_, by rw [if_pos (show bv none = -9 from rfl)]; rfl⟩
      by_cases x1 : x = -1
      · rw [if_pos x1, if_pos (show gv none = -9 from rfl)]; rfl
      · rw [if_neg x1]; rfl
    | some s =>
      rw [eg] at be
      obtain ⟨code, eo, hd⟩ := be
      subst eo
      obtain ⟨s1, s2, -⟩ := gre_some eg
      rw [if_neg (show ¬ bv (some (0, code)) = -9 from nI_m9 (n := 0) (by omega))]
      by_cases x1 : x = -1
      · refine ⟨0, ?_, ?_⟩
        · rw [if_pos x1, if_neg (show ¬ gv (some s) = -9 from nI_m9 (by omega))]
        · rw [if_pos x1]; rfl
      · rcases hx with hx | ⟨l, hl, rfl⟩
        · exact absurd hx x1
        · refine ⟨nI s, ?_, ?_⟩
          · rw [if_neg x1]; rfl
          · rw [if_neg x1, ld_nI (by omega) (by omega), bind_some', b3.2 l hl, hd l hl]
  by_cases x1 : x = -1
  · obtain ⟨r, r1, r2⟩ := main (Or.inl x1)
    exact ⟨r, g, g2, by rw [if_pos x1]; exact r1, by rw [if_pos x1]; exact r2, L, P, Z, wd, q, R2⟩
  · rw [if_neg x1, hasLine_eq cx k, b2_some]
    by_cases hx : isIx x L
    · obtain ⟨l, hl, rfl⟩ := ix_of hx (by omega)
      obtain ⟨r, r1, r2⟩ := main (Or.inr ⟨l, hl, rfl⟩)
      refine ⟨r, g, g2, by rw [if_pos hx, if_neg (by decide)]; exact r1, ?_, L, P, Z, wd, q, R2⟩
      rw [if_neg x1, isLine_eq cg k, b2_some, if_pos hx, if_neg (by decide)]
      exact r2
    · refine ⟨-1, h, h, by rw [if_neg hx, if_pos rfl], ?_, L, P, Z, wd, q, R⟩
      rw [if_neg x1, isLine_eq cy k, b2_some, if_neg hx, if_pos rfl]
