/-- letters, with what some are longer -/
def lnX (q : Nat → Nat → Nat) (c w : Nat) : Nat := q w 0 + c / 2 ^ w % 2 * 2
section
variable {L P Z : Nat} {wd : Nat → Nat} {q : Nat → Nat → Nat}
theorem lnX_in (k : Cok L P Z wd q) {w : Nat} (hw : w < P) (c : Nat) : 1 ≤ lnX q c w ∧ lnX q c w ≤ 14 := by
  have := k.2.2.2.2.2 w hw
  have m : c / 2 ^ w % 2 < 2 := Nat.mod_lt _ (by omega)
  unfold lnX
  omega
/-- where the PIECES of a set stand, in an array -/
def LO (g : Hp) (a L : Nat) (we sz ln : Nat → Nat) (b w : Nat) : Prop := ∀ v, v < w → b.testBit v = true → ∃ u, stt L we sz ln b (v + 1) = some u ∧ g.1 a v = nI u.1
theorem goesOn_loop (k : Cok L P Z wd q) {s b c far : Nat} (h1 : 1 ≤ s) (h5 : s ≤ 5) (hb : b < 1024) (hc : c < 1024) : ∀ d w, w + d = P → ∀ n, d < n → ∀ (h : Hp) (t : Nat × Nat × Bool), CdX h L P Z wd q → F10 h t → stt L (weX wd far) (fun _ => s) (lnX q c) b w = some t → LO h 11 L (weX wd far) (fun _ => s) (lnX q c) b w →
    ∃ g, X0_goesOn_l8 n (nI s) (nI b) (nI c) (nI w) h = some (bi (stt L (weX wd far) (fun _ => s) (lnX q c) b P).isSome, g) ∧ FX h g ∧ ∀ u, stt L (weX wd far) (fun _ => s) (lnX q c) b P = some u → F10 g u ∧ LO g 11 L (weX wd far) (fun _ => s) (lnX q c) b P := by
  have h10 := k.2.1
  have h6 := k.1
  intro d
  induction d with
  | zero =>
    intro w hw n hn h t cx ft et lo
    obtain ⟨n, rfl⟩ : ∃ z, n = z + 1 := ⟨n - 1, by omega⟩
    have : w = P := by omega
    subst this
    rw [X0_goesOn_l8_s, et]
    unfold X0_goesOn_b8
    rw [cx.2.1, if_pos (Int32.le_refl _)]
    exact ⟨h, rfl, FX.rf h, fun u hu => by cases hu; exact ⟨ft, lo⟩⟩
  | succ d ih =>
    intro w hw n hn h t cx ft et lo
    obtain ⟨n, rfl⟩ : ∃ z, n = z + 1 := ⟨n - 1, by omega⟩
    have hwP : w < P := by omega
    have es := stt_s et
    rw [X0_goesOn_l8_s]
    unfold X0_goesOn_b8 X0_goesOn_b74
    rw [cx.2.1, if_neg (nI_ge hwP (by omega)), bit_nI h (by omega) (by omega), b2_some]
    cases eb : b.testBit w with
    | false =>
      rw [eb] at es
      rw [(tb_iff0 b w).mpr eb, if_neg (by decide), i1, nI_add]
      refine ih (w + 1) (by omega) n (by omega) h t cx ft es (fun v hv e => ?_)
      by_cases ev : v = w
      · subst ev; rw [eb] at e; cases e
      · exact lo v (by omega) e
    | true =>
      rw [eb] at es
      have ln := lnX_in k hwP c
      have en : X3_of (nI w) 0 h = some (nI (q w 0), h) := of_eq (j := 0) cx k hwP (by omega)
      rw [(tb_iff b w).mpr eb, if_pos (by decide), en, b2_some, bit_nI h (by omega) (by omega), b2_some, i2, pk_mul, nI_add]
      obtain ⟨g, x, e11, ep, fu2⟩ := put_X (far := far) cx k ln.1 (by omega : lnX q c w ≤ 20) h1 h5 (stt_ok et) ft
      rw [show q w 0 + c / 2 ^ w % 2 * 2 = lnX q c w from rfl, ep, b2_some]
      have es : stt L (weX wd far) (fun _ => s) (lnX q c) b (w + 1) = pu L (weX wd far) (fun _ => s) (lnX q c w) t := es
      cases epu : pu L (weX wd far) (fun _ => s) (lnX q c w) t with
      | none =>
        rw [epu] at es
        have en2 := stt_n es d
        rw [show w + 1 + d = P by omega] at en2
        rw [if_pos (show bi (none : Option (Nat × Nat × Bool)).isSome = 0 from rfl), en2]
        exact ⟨g, rfl, x, fun u hu => by cases hu⟩
      | some u =>
        rw [epu] at es
        have fg := fu2 u epu
        rw [if_neg (show ¬ bi (some u).isSome = 0 from (by decide : ¬ bi true = 0)), fg.1, st_nI (by omega) (by omega), bind_some', i1, nI_add]
        have x2 : FX h (sI g 11 w (nI u.1)) := x.s11 w _
        obtain ⟨g3, e3, x3, f3⟩ := ih (w + 1) (by omega) n (by omega) (sI g 11 w (nI u.1)) u (x2.cd cx) fg es (fun v hv e => by
          by_cases ev : v = w
          · subst ev
            exact ⟨u, es, by rw [sI_row, if_pos rfl]; exact pk_us⟩
          · obtain ⟨u2, a1, a2⟩ := lo v (by omega) e
            exact ⟨u2, a1, by rw [sI_row, if_pos rfl, pk_un ev, e11]; exact a2⟩)
        exact ⟨g3, e3, x2.tr x3, f3⟩
theorem goesOn_X (k : Cok L P Z wd q) {h : Hp} (cx : CdX h L P Z wd q) {s b c : Nat} (h1 : 1 ≤ s) (h5 : s ≤ 5) (hb : b < 1024) (hc : c < 1024) :
    ∃ g, X0_goesOn (nI s) (nI b) (nI c) h = some (bi (stt L wd (fun _ => s) (lnX q c) b P).isSome, g) ∧ FX h g ∧ ∀ u, stt L wd (fun _ => s) (lnX q c) b P = some u → F10 g u ∧ LO g 11 L wd (fun _ => s) (lnX q c) b P := by
  have h10 := k.2.1
  have ew : weX wd 0 = wd := by
    funext l
    unfold weX
    by_cases e : l = 0
    · rw [if_pos e, e, Nat.sub_zero]
    · rw [if_neg e]
  obtain ⟨g, e, x, -, f⟩ := begin_X cx k (far := 0) (by omega)
  unfold X0_goesOn
  rw [show X0_begin 0 h = some g from e, bind_some']
  obtain ⟨g2, e2, x2, f2⟩ := goesOn_loop k (far := 0) h1 h5 hb hc P 0 (by omega) fu (fu_pos (by omega)) g _ (x.cd cx) f rfl (fun v hv => by omega)
  rw [ew] at e2 f2
  exact ⟨g2, e2, x.tr x2, f2⟩
theorem howFar_loop (k : Cok L P Z wd q) {s far b : Nat} (h1 : 1 ≤ s) (h5 : s ≤ 5) (hb : ∀ v, v < P → b.testBit v = true) : ∀ d w, w + d = P → ∀ n, d < n → ∀ (h : Hp) (t : Nat × Nat × Bool), CdX h L P Z wd q → F10 h t → stt L (weX wd far) (fun _ => s) (lnX q 0) b w = some t →
    ∃ g r, X0_howFar_l7 n (nI s) (nI w) h = some (nI r, g) ∧ FX h g ∧ ((stt L (weX wd far) (fun _ => s) (lnX q 0) b P).isSome = true ∧ r = P ∨ r < P ∧ (stt L (weX wd far) (fun _ => s) (lnX q 0) b r).isSome = true ∧ stt L (weX wd far) (fun _ => s) (lnX q 0) b (r + 1) = none) := by
  have h10 := k.2.1
  intro d
  induction d with
  | zero =>
    intro w hw n hn h t cx ft et
    obtain ⟨n, rfl⟩ : ∃ z, n = z + 1 := ⟨n - 1, by omega⟩
    have : w = P := by omega
    subst this
    rw [X0_howFar_l7_s]
    unfold X0_howFar_b7
    rw [cx.2.1, if_pos (Int32.le_refl _)]
    exact ⟨h, w, rfl, FX.rf h, Or.inl ⟨by rw [et]; rfl, rfl⟩⟩
  | succ d ih =>
    intro w hw n hn h t cx ft et
    obtain ⟨n, rfl⟩ : ∃ z, n = z + 1 := ⟨n - 1, by omega⟩
    have hwP : w < P := by omega
    have es := stt_s et
    rw [hb w hwP] at es
    have es : stt L (weX wd far) (fun _ => s) (lnX q 0) b (w + 1) = pu L (weX wd far) (fun _ => s) (lnX q 0 w) t := es
    have ln := lnX_in k hwP 0
    have eln : lnX q 0 w = q w 0 := by unfold lnX; rw [Nat.zero_div]; rfl
    have en : X3_of (nI w) 0 h = some (nI (q w 0), h) := of_eq (j := 0) cx k hwP (by omega)
    rw [X0_howFar_l7_s]
    unfold X0_howFar_b7
    rw [cx.2.1, if_neg (nI_ge hwP (by omega)), en, b2_some]
    obtain ⟨g, x, -, ep, fu2⟩ := put_X (far := far) cx k ln.1 (by omega : lnX q 0 w ≤ 20) h1 h5 (stt_ok et) ft
    rw [← eln, ep, b2_some]
    cases epu : pu L (weX wd far) (fun _ => s) (lnX q 0 w) t with
    | none =>
      rw [epu] at es
      rw [if_pos (show bi (none : Option (Nat × Nat × Bool)).isSome = 0 from rfl)]
      exact ⟨g, w, rfl, x, Or.inr ⟨hwP, by rw [et]; rfl, es⟩⟩
    | some u =>
      rw [epu] at es
      rw [if_neg (show ¬ bi (some u).isSome = 0 from (by decide : ¬ bi true = 0)), i1, nI_add]
      obtain ⟨g3, r, e3, x3, f3⟩ := ih (w + 1) (by omega) n (by omega) g u (x.cd cx) (fu2 u epu) es
      exact ⟨g3, r, e3, x.tr x3, f3⟩
/-! the reference -/
def MY (h : Hp) (L P Z : Nat) (wd : Nat → Nat) (q : Nat → Nat → Nat) (sz : Nat → Nat) (far c : Nat) : Prop := CdY h L P Z wd q ∧ (∀ l, l < L → h.1 29 l = nI (sz l)) ∧ h.1 20 17 = nI far ∧ h.1 20 18 = nI c
def FY (h g : Hp) : Prop := (∀ o, o ≠ 30 → o ≠ 20 → g.1 o = h.1 o) ∧ (∀ j, j ≠ 20 → j ≠ 21 → j ≠ 22 → g.1 20 j = h.1 20 j) ∧ g.2 = h.2
theorem FY.rf (h : Hp) : FY h h := ⟨fun _ _ _ => rfl, fun _ _ _ _ => rfl, rfl⟩
theorem FY.tr {a b c : Hp} (x : FY a b) (y : FY b c) : FY a c := ⟨fun o h1 h2 => (y.1 o h1 h2).trans (x.1 o h1 h2), fun j h1 h2 h3 => (y.2.1 j h1 h2 h3).trans (x.2.1 j h1 h2 h3), y.2.2.trans x.2.2⟩
theorem FY.fr {a b : Hp} (x : FY a b) : Fr a b := ⟨fun o j q => by
  by_cases h1 : o = 30
  · rw [h1] at q; cases q
  · by_cases h2 : o = 20
    · subst h2
      refine x.2.1 j (fun e => ?_) (fun e => ?_) (fun e => ?_) <;> (rw [e] at q; cases q)
    · rw [x.1 o h1 h2], x.2.2⟩
theorem FY.my {a b : Hp} {sz : Nat → Nat} {far c : Nat} (x : FY a b) (k : Cok L P Z wd q) (m : MY a L P Z wd q sz far c) : MY b L P Z wd q sz far c := by
  obtain ⟨m1, m2, m3, m4⟩ := m
  exact ⟨m1.of k.1 k.2.1 (by rw [x.1 22 (by decide) (by decide)]) (by rw [x.1 24 (by decide) (by decide)]) (by rw [x.1 26 (by decide) (by decide)]) (fun j _ => by rw [x.1 23 (by decide) (by decide)]) (fun j _ => by rw [x.1 25 (by decide) (by decide)]), fun l hl => by rw [x.1 29 (by decide) (by decide)]; exact m2 l hl, by rw [x.2.1 17 (by decide) (by decide) (by decide)]; exact m3, by rw [x.2.1 18 (by decide) (by decide) (by decide)]; exact m4⟩
theorem wideOf5 (k : Cok L P Z wd q) {h : Hp} {sz : Nat → Nat} {far c : Nat} (m : MY h L P Z wd q sz far c) (hf : far ≤ 60) {l : Nat} (hl : l < L) : X5_wideOf (nI l) h = some (nI (weX wd far l), h) := by
  have h6 := k.1
  have w60 := k.2.2.2.2.1 l hl
  unfold X5_wideOf X5_wideOf_b24 weX
  by_cases e : l = 0
  · subst e
    rw [if_pos (by decide), m.1.2.2.2.1 0 hl, m.2.2.1, if_pos rfl]
    by_cases y : far ≤ wd 0
    · rw [pk_sub y, if_pos (nI_pos' (by omega))]
    · rw [if_neg (Int32.not_le.mpr (pk_sneg (by omega) (by omega))), show wd 0 - far = 0 by omega]
      rfl
  · rw [if_neg (show ¬ nI l = (0 : Int32) from nI_ne0 (by omega) (by omega)), ld_nI (by omega) (by omega), bind_some', m.1.2.2.2.1 l hl, if_pos (nI_pos' (by omega)), if_neg e]
/-- the reference's answers so far -/
def LSp (h : Hp) (t : Nat × Nat × Bool) : Prop := h.1 20 21 = (bif t.2.2 then -9 else nI t.1) ∧ h.1 20 22 = (bif t.2.2 then -9 else nI t.2.1)
theorem scan5 (k : Cok L P Z wd q) {h : Hp} {sz : Nat → Nat} {far c : Nat} (m : MY h L P Z wd q sz far c) (hf : far ≤ 60) (hsz : ∀ l, l < L → sz l ≤ 5) {nn : Nat} (hn : nn ≤ 20) (K44 : Int32 → Int32 → Int32 → Int32 → Int32 → Hp → Option (Int32 × Hp)) (x1 x5 : Int32) : ∀ d l, l + d = L → ∀ n, d < n → X5_fillBy_l146 K44 n x1 (nI l) x5 (nI nn) h = match fl L (weX wd far) sz nn d with
    | none => some (0, h)
    | some l2 => X5_fillBy_b210 K44 x1 (nI l2) (nI (weX wd far l2 - nn * sz l2)) 0 x5 h := by
  have h6 := k.1
  intro d
  induction d with
  | zero =>
    intro l hl n hn2
    obtain ⟨n, rfl⟩ : ∃ z, n = z + 1 := ⟨n - 1, by omega⟩
    have : l = L := by omega
    subst this
    rw [X5_fillBy_l146_s]
    unfold X5_fillBy_b146 X5_fillBy_b179
    rw [m.1.1, if_pos (Int32.le_refl _), if_neg (nI_nlt (Nat.le_refl l) (by omega))]
    rfl
  | succ d ih =>
    intro l hl n hn2
    obtain ⟨n, rfl⟩ : ∃ z, n = z + 1 := ⟨n - 1, by omega⟩
    have hlL : l < L := by omega
    have s5 := hsz l hlL
    have m100 : nn * sz l ≤ 20 * 5 := Nat.mul_le_mul hn s5
    have w60 : weX wd far l ≤ 60 := by
      have := k.2.2.2.2.1 l hlL
      unfold weX
      split
      · rename_i z; subst z; omega
      · omega
    rw [X5_fillBy_l146_s]
    unfold X5_fillBy_b146
    rw [m.1.1, if_neg (nI_ge hlL (by omega)), ld_nI (by omega) (by omega), bind_some', m.2.1 l hlL, wideOf5 k m hf hlL, b2_some, pk_mul, show fl L (weX wd far) sz nn (d + 1) = if nn * sz (L - (d + 1)) ≤ weX wd far (L - (d + 1)) then some (L - (d + 1)) else fl L (weX wd far) sz nn d from rfl, show L - (d + 1) = l by omega]
    by_cases cf : nn * sz l ≤ weX wd far l
    · rw [if_pos (nI_le cf (by omega)), if_pos cf]
      unfold X5_fillBy_b179
      rw [m.1.1, if_pos (nI_lt hlL (by omega)), wideOf5 k m hf hlL, b2_some, ld_nI (by omega) (by omega), bind_some', m.2.1 l hlL, pk_mul, pk_sub cf]
    · rw [if_neg (nI_ge (by omega) (by omega)), if_neg cf, i1, nI_add]
      exact ih (l + 1) (by omega) n (by omega)
end
