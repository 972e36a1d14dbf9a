/-! the whole card -/
section
variable {n : Nat} {bt : Nat → Nat}
theorem okV_in {c P a i v : Nat} (h : okV c P a i v = true) : (c = 108 → 1 ≤ v ∧ v ≤ 60) ∧ (c = 122 → 1 ≤ v ∧ v ≤ 5) ∧ (c = 119 → (i = 0 → 1 ≤ v ∧ v ≤ 12) ∧ (i = 1 → v ≤ 9) ∧ (i = 2 → v < P ∨ v = 99) ∧ (i = 3 → v ≤ 12) ∧ (i = 4 → v < a)) := by
  unfold okV at h
  by_cases c1 : c = 108
  · rw [if_pos c1] at h
    have h := of_decide_eq_true h
    exact ⟨fun _ => h, fun z => by omega, fun z => by omega⟩
  · rw [if_neg c1] at h
    by_cases c2 : c = 122
    · rw [if_pos c2] at h
      have h := of_decide_eq_true h
      exact ⟨fun z => absurd z c1, fun _ => h, fun z => by omega⟩
    · rw [if_neg c2] at h
      refine ⟨fun z => absurd z c1, fun z => absurd z c2, fun _ => ?_⟩
      by_cases i0 : i = 0
      · rw [if_pos i0] at h
        have h := of_decide_eq_true h
        omega
      · rw [if_neg i0] at h
        by_cases i1 : i = 1
        · rw [if_pos i1] at h
          have h := of_decide_eq_true h
          omega
        · rw [if_neg i1] at h
          by_cases i2 : i = 2
          · rw [if_pos i2] at h
            have h := of_decide_eq_true h
            omega
          · rw [if_neg i2] at h
            by_cases i3 : i = 3
            · rw [if_pos i3] at h
              have h := of_decide_eq_true h
              omega
            · rw [if_neg i3] at h
              have h := of_decide_eq_true h
              omega
def Cst (L P Z b : Nat) (wd : Nat → Nat) (q : Nat → Nat → Nat) : Prop := Cok L P Z wd q ∧ b ≤ 1
/-- what the two readers answer from here on -/
def Out (bt : Nat → Nat) (n p it : Nat) (L P Z b : Nat) (wd : Nat → Nat) (q : Nat → Nat → Nat) (hx : Hp) (m : Nat) (d : Nat) : Prop :=
  ∃ gx, Fr hx gx ∧ ((∃ s, s ≤ 200 ∧ X2_tellTo_l19 m hx = some (nI s, gx) ∧ ∀ hy m2, d + 1 < m2 → TY hy n bt → DY hy L P Z b wd q → hy.1 20 12 = -9 → TKY hy (tok bt n p) → ∃ gy, Fr hy gy ∧ X5_card_l43 m2 (nI it) hy = some (-10 - nI s, gy)) ∨
    (∃ L' P' Z' b' wd' q' it', it' ≤ 17 ∧ Cok L' P' Z' wd' q' ∧ X2_tellTo_l19 m hx = some (-1, gx) ∧ DX gx L' P' Z' b' wd' q' ∧ gx.1 1 3 = nI it' ∧ ∀ hy m2, d + 1 < m2 → TY hy n bt → DY hy L P Z b wd q → hy.1 20 12 = -9 → TKY hy (tok bt n p) → ∃ gy, Fr hy gy ∧ X5_card_l43 m2 (nI it) hy = X5_card_b113 (nI it') gy ∧ gy.1 20 12 = -9 ∧ DY gy L' P' Z' b' wd' q'))
theorem card_loop : ∀ d p, n - p < d → p ≤ n → ∀ L P Z b wd q, Cok L P Z wd q → b ≤ 1 → ∀ it, it = L + P + b → ∀ hx, TX hx n bt → DX hx L P Z b wd q → hx.1 1 6 = nI p → hx.1 1 3 = nI it → ∀ m, d < m → Out bt n p it L P Z b wd q hx m d := by
  intro d
  induction d with
  | zero => intro p hd; omega
  | succ d ih =>
    intro p hd hp L P Z b wd q k hb it hit hx t dx e6 e3 m hm
    obtain ⟨m, rfl⟩ : ∃ z, m = z + 1 := ⟨m - 1, by omega⟩
    have n2 := t.1
    have h6 := k.1
    have h10 := k.2.1
    unfold Out
    rw [X2_tellTo_l19_s]
    by_cases k0 : (tkN bt n p 0).2.1 = 0
    · -- the end
      obtain ⟨g, eg, xg, kg⟩ := step_X t hp e6
      obtain ⟨k1, k2, k3, k4⟩ : TKX g (tkN bt n p 0) := kg
      have x := NX.ch xg
      obtain ⟨d1, d2, d3, d4, d5, d6⟩ := dx
      refine ⟨g, x.fr, Or.inr ⟨L, P, Z, b, wd, q, it, by omega, k, ?_, ⟨by rw [xg.row (by decide)]; exact d1, by rw [xg.row (by decide)]; exact d2, by rw [xg.row (by decide)]; exact d3, by rw [xg.pl (by decide)]; exact d4, by rw [xg.row (by decide)]; exact d5, by rw [xg.row (by decide)]; exact d6⟩, by rw [xg.pl (by decide)]; exact e3, fun hy m2 hm2 ty dy e12 tk => ?_⟩⟩
      · unfold X2_tellTo_b19
        rw [e3, if_neg (show ¬ (17 : Int32) < nI it from nI_nlt (a := 17) (by omega) (by omega)), eg, bind_some', k2, if_pos (show nI (tkN bt n p 0).2.1 = (0 : Int32) by rw [k0]; rfl)]
      · obtain ⟨m2, rfl⟩ : ∃ z, m2 = z + 1 := ⟨m2 - 1, by omega⟩
        refine ⟨hy, Fr.rf hy, ?_, e12, dy⟩
        rw [X5_card_l43_s]
        unfold X5_card_b43
        have e10 : hy.1 20 10 = 3 := by
          rw [tk.2.1]
          have k0 : (tok bt n p).2.1 = 0 := k0
          unfold srt
          rw [k0]
          rfl
        rw [e12, if_pos rfl, e10, if_pos rfl]
    · obtain ⟨g, fg, r1, r2⟩ := row_X (it := it) hp h6 h10 hb (by omega) (X2_tellTo_l19 m) t dx e6 e3 k0
      cases ef : flt bt n p L P b (cnt (vl bt n p 0) + 2) with
      | some s =>
        have sl := flt_le hp _ s ef
        refine ⟨g, fg, Or.inl ⟨s, by omega, r1 s ef, fun hy m2 hm2 ty dy e12 tk => ?_⟩⟩
        obtain ⟨m2, rfl⟩ : ∃ z, m2 = z + 1 + 1 := ⟨m2 - 2, by omega⟩
        obtain ⟨gy, fy, y1, -⟩ := row_Y (it := it) hp h6 h10 hb (X5_card_l43 (m2 + 1)) ty dy e12 tk k0
        obtain ⟨x, ex, e12'⟩ := y1 s ef
        refine ⟨gy, fy, ?_⟩
        rw [X5_card_l43_s, ex, X5_card_l43_s]
        unfold X5_card_b43 X5_card_b113
        rw [e12', if_neg (nI_m9 (by omega)), if_neg (nI_m9 (by omega))]
      | none =>
        obtain ⟨e, g6, g3, D1, D2, D3⟩ := r2 ef
        have pl : p < psN bt n p (cnt (vl bt n p 0) + 2) := by
          have inc : ∀ j, flt bt n p L P b (j + 1) = none → psN bt n p j < psN bt n p (j + 1) := by
            intro j hj
            obtain ⟨a1, a2⟩ := flt_ok hj
            refine (tok_in bt (ps_le hp j)).2.2.1 (fun z => ?_)
            have z : (tkN bt n p j).2.1 = 0 := z
            unfold okR okL at a2
            rw [z] at a2
            by_cases j0 : j = 0
            · subst j0; exact k0 z
            · rw [if_neg j0] at a2
              by_cases j1 : j ≤ cnt (vl bt n p 0)
              · rw [if_pos j1] at a2; cases a2
              · rw [if_neg j1] at a2; cases a2
          have all : ∀ j, j ≤ cnt (vl bt n p 0) + 1 → p < psN bt n p (j + 1) := by
            intro j
            induction j with
            | zero => intro _; exact inc 0 (flt_b (d := cnt (vl bt n p 0) + 1) (by rw [show 0 + 1 + (cnt (vl bt n p 0) + 1) = cnt (vl bt n p 0) + 2 by omega]; exact ef))
            | succ j ihj =>
              intro hj
              exact Nat.lt_trans (ihj (by omega)) (inc (j + 1) (flt_b (d := cnt (vl bt n p 0) - j) (by rw [show j + 1 + 1 + (cnt (vl bt n p 0) - j) = cnt (vl bt n p 0) + 2 by omega]; exact ef)))
          exact all (cnt (vl bt n p 0) + 1) (Nat.le_refl _)
        have pn : psN bt n p (cnt (vl bt n p 0) + 2) ≤ n := ps_le hp _
        have tg : TX g n bt := ⟨n2, by rw [fg.1 1 2 rfl]; exact t.2.1, by rw [fg.row 2 (fun _ => rfl)]; exact t.2.2.1, t.2.2.2⟩
        have efl : flt bt n p L P b 1 = none := flt_b (d := cnt (vl bt n p 0) + 1) (by rw [show 1 + (cnt (vl bt n p 0) + 1) = cnt (vl bt n p 0) + 2 by omega]; exact ef)
        have en : ∀ i, i < cnt (vl bt n p 0) → okV (vl bt n p 0) P (vl bt n p 1) i (vl bt n p (i + 1)) = true := fun i hi => (flt_num hi (flt_b (d := cnt (vl bt n p 0) - i) (by rw [show i + 2 + (cnt (vl bt n p 0) - i) = cnt (vl bt n p 0) + 2 by omega]; exact ef))).2
        -- from the next row on
        have go : ∀ L' P' Z' b' wd' q', Cok L' P' Z' wd' q' → b' ≤ 1 → it + 1 = L' + P' + b' → DX g L' P' Z' b' wd' q' → (∀ hy : Hp, DN bt n p L P Z b wd q (DY hy) → DY hy L' P' Z' b' wd' q') → ∃ gx, Fr hx gx ∧ ((∃ s, s ≤ 200 ∧ X2_tellTo_b19 (X2_tellTo_l19 m) hx = some (nI s, gx) ∧ ∀ hy m2, d + 1 + 1 < m2 → TY hy n bt → DY hy L P Z b wd q → hy.1 20 12 = -9 → TKY hy (tok bt n p) → ∃ gy, Fr hy gy ∧ X5_card_l43 m2 (nI it) hy = some (-10 - nI s, gy)) ∨
            (∃ L' P' Z' b' wd' q' it', it' ≤ 17 ∧ Cok L' P' Z' wd' q' ∧ X2_tellTo_b19 (X2_tellTo_l19 m) hx = some (-1, gx) ∧ DX gx L' P' Z' b' wd' q' ∧ gx.1 1 3 = nI it' ∧ ∀ hy m2, d + 1 + 1 < m2 → TY hy n bt → DY hy L P Z b wd q → hy.1 20 12 = -9 → TKY hy (tok bt n p) → ∃ gy, Fr hy gy ∧ X5_card_l43 m2 (nI it) hy = X5_card_b113 (nI it') gy ∧ gy.1 20 12 = -9 ∧ DY gy L' P' Z' b' wd' q')) := by
          intro L' P' Z' b' wd' q' k' hb' hit' dx' dn
          have o := ih (psN bt n p (cnt (vl bt n p 0) + 2)) (by omega) pn L' P' Z' b' wd' q' k' hb' (it + 1) hit' g tg dx' g6 g3 m (by omega)
          obtain ⟨gx, fx, o⟩ := o
          refine ⟨gx, fg.tr fx, ?_⟩
          rw [e]
          rcases o with ⟨s, s1, s2, s3⟩ | ⟨L2, P2, Z2, b2', wd2, q2, it2, i1', i2', i3', i4', i5', i6'⟩
          · refine Or.inl ⟨s, s1, s2, fun hy m2 hm2 ty dy e12 tk => ?_⟩
            obtain ⟨m2, rfl⟩ : ∃ z, m2 = z + 1 := ⟨m2 - 1, by omega⟩
            obtain ⟨gy, fy, -, y2⟩ := row_Y (it := it) hp h6 h10 hb (X5_card_l43 m2) ty dy e12 tk k0
            obtain ⟨a1, a2, a3, a4, a5⟩ := y2 ef
            obtain ⟨gz, fz, ez⟩ := s3 gy m2 (by omega) a2 (dn gy a5) a3 a4
            exact ⟨gz, fy.tr fz, by rw [X5_card_l43_s, a1]; exact ez⟩
          · refine Or.inr ⟨L2, P2, Z2, b2', wd2, q2, it2, i1', i2', i3', i4', i5', fun hy m2 hm2 ty dy e12 tk => ?_⟩
            obtain ⟨m2, rfl⟩ : ∃ z, m2 = z + 1 := ⟨m2 - 1, by omega⟩
            obtain ⟨gy, fy, -, y2⟩ := row_Y (it := it) hp h6 h10 hb (X5_card_l43 m2) ty dy e12 tk k0
            obtain ⟨a1, a2, a3, a4, a5⟩ := y2 ef
            obtain ⟨gz, fz, ez, e1, e2⟩ := i6' gy m2 (by omega) a2 (dn gy a5) a3 a4
            exact ⟨gz, fy.tr fz, by rw [X5_card_l43_s, a1]; exact ez, e1, e2⟩
        obtain ⟨kd, lets⟩ := flt_letter efl
        obtain ⟨c1, c2, c3, c4, c5, c6⟩ := id k
        rcases lets with ⟨c, l6⟩ | ⟨c, l10⟩ | ⟨c, b0⟩
        · have ct : cnt (vl bt n p 0) = 1 := by unfold cnt; rw [if_neg (by omega)]
          have v0 := (okV_in (en 0 (by omega))).1 c
          refine go (L + 1) P Z b (ins wd L (vl bt n p 1)) q ⟨by omega, c2, c3, c4, fun l hl => ?_, c6⟩ hb (by omega) (D1 c) (fun hy z => z.1 c)
          unfold ins
          by_cases e : l = L
          · rw [if_pos e]; exact v0
          · rw [if_neg e]; exact c5 l (by omega)
        · have ct : cnt (vl bt n p 0) = 5 := by unfold cnt; rw [if_pos c]
          have v0 := ((okV_in (en 0 (by omega))).2.2 c).1 rfl
          have v1 := ((okV_in (en 1 (by omega))).2.2 c).2.1 rfl
          have v2 := ((okV_in (en 2 (by omega))).2.2 c).2.2.1 rfl
          have v3 := ((okV_in (en 3 (by omega))).2.2 c).2.2.2.1 rfl
          have v4 := ((okV_in (en 4 (by omega))).2.2 c).2.2.2.2 rfl
          refine go L (P + 1) Z b wd (ins q P (fun j => vl bt n p (j + 1))) ⟨c1, by omega, c3, c4, c5, fun w hw => ?_⟩ hb (by omega) (D2 c) (fun hy z => z.2.1 c)
          unfold ins
          by_cases e : w = P
          · subst e
            rw [if_pos rfl]
            exact ⟨v0.1, v0.2, v1, v2, v3, v4⟩
          · rw [if_neg e]; exact c6 w (by omega)
        · have ct : cnt (vl bt n p 0) = 1 := by unfold cnt; rw [if_neg (by omega)]
          have v0 := (okV_in (en 0 (by omega))).2.1 c
          exact go L P (vl bt n p 1) 1 wd q ⟨c1, c2, v0.1, v0.2, c5, c6⟩ (by omega) (by omega) (D3 c) (fun hy z => z.2.2 c)
end
/-! taking the new card on -/
theorem copyL (x : Int32) (f : Nat → Int32) : ∀ d i, i + d = 6 → ∀ m, d < m → ∀ h : Hp, (∀ j, 6 ≤ j → h.1 23 j = f j) → (∀ j, j < i → h.1 23 j = f (6 + j)) → ∃ g, X5_card_l168 m x (nI i) h = X5_card_l197 fu x 0 g ∧ Ch 23 (· < 6) h g ∧ ∀ j, j < 6 → g.1 23 j = f (6 + j) := by
  intro d
  induction d with
  | zero =>
    intro i hi m hm h h1 h2
    obtain ⟨m, rfl⟩ : ∃ z, m = z + 1 := ⟨m - 1, by omega⟩
    have : i = 6 := by omega
    subst this
    rw [X5_card_l168_s]
    unfold X5_card_b168
    rw [if_pos (by decide)]
    exact ⟨h, rfl, Ch.rf h, h2⟩
  | succ d ih =>
    intro i hi m hm h h1 h2
    obtain ⟨m, rfl⟩ : ∃ z, m = z + 1 := ⟨m - 1, by omega⟩
    rw [X5_card_l168_s]
    unfold X5_card_b168
    rw [if_neg (show ¬ (6 : Int32) ≤ nI i from nI_ge (b := 6) (by omega) (by omega)), i6, nI_add, ld_nI (by omega) (by omega), bind_some', st_nI (by omega) (by omega), bind_some', i1, nI_add, h1 (6 + i) (by omega)]
    have x0 := (Ch.rf (o := 23) (J := (· < 6)) h).s (k := i) (f (6 + i)) (by omega)
    obtain ⟨g, e, x2, a⟩ := ih (i + 1) (by omega) m (by omega) (sI h 23 i (f (6 + i))) (fun j hj => by rw [x0.pl (by omega)]; exact h1 j hj) (fun j hj => by
      rw [sI_row, if_pos rfl]
      unfold upd
      by_cases e : j = i
      · rw [if_pos e, e]
      · rw [if_neg e]; exact h2 j (by omega))
    exact ⟨g, e, x0.tr x2, a⟩
noncomputable def cEnd (x : Int32) (h : Hp) : Option (Int32 × Hp) := if (h.1 22 0) ≤ 0 then
      X5_card_b262 x (2 : Int32) (0 : Int32) (sI (sI h 27 0 (0 : Int32)) 27 1 (0 : Int32))
    else
      X5_card_b262 x (2 : Int32) (h.1 23 0) (sI (sI h 27 0 (0 : Int32)) 27 1 (0 : Int32))
theorem copyP (x : Int32) (f : Nat → Int32) : ∀ d i, i + d = 50 → ∀ m, d < m → ∀ h : Hp, (∀ j, 50 ≤ j → h.1 25 j = f j) → (∀ j, j < i → h.1 25 j = f (50 + j)) → ∃ g, X5_card_l197 m x (nI i) h = cEnd x g ∧ Ch 25 (· < 50) h g ∧ ∀ j, j < 50 → g.1 25 j = f (50 + j) := by
  intro d
  induction d with
  | zero =>
    intro i hi m hm h h1 h2
    obtain ⟨m, rfl⟩ : ∃ z, m = z + 1 := ⟨m - 1, by omega⟩
    have : i = 50 := by omega
    subst this
    rw [X5_card_l197_s]
    unfold X5_card_b197
    rw [if_pos (by decide)]
    exact ⟨h, rfl, Ch.rf h, h2⟩
  | succ d ih =>
    intro i hi m hm h h1 h2
    obtain ⟨m, rfl⟩ : ∃ z, m = z + 1 := ⟨m - 1, by omega⟩
    rw [X5_card_l197_s]
    unfold X5_card_b197
    rw [if_neg (show ¬ (50 : Int32) ≤ nI i from nI_ge (b := 50) (by omega) (by omega)), i50, nI_add, ld_nI (by omega) (by omega), bind_some', st_nI (by omega) (by omega), bind_some', i1, nI_add, h1 (50 + i) (by omega)]
    have x0 := (Ch.rf (o := 25) (J := (· < 50)) h).s (k := i) (f (50 + i)) (by omega)
    obtain ⟨g, e, x2, a⟩ := ih (i + 1) (by omega) m (by omega) (sI h 25 i (f (50 + i))) (fun j hj => by rw [x0.pl (by omega)]; exact h1 j hj) (fun j hj => by
      rw [sI_row, if_pos rfl]
      unfold upd
      by_cases e : j = i
      · rw [if_pos e, e]
      · rw [if_neg e]; exact h2 j (by omega))
    exact ⟨g, e, x0.tr x2, a⟩
/-- how wide the first LINE is, if there is one -/
def w1 (L : Nat) (wd : Nat → Nat) : Nat := if L = 0 then 0 else wd 0
theorem end_Y {L P Z b : Nat} {wd : Nat → Nat} {q : Nat → Nat → Nat} (k : Cok L P Z wd q) {h : Hp} (x : Int32) (e12 : h.1 20 12 = -9) (d : DY h L P Z b wd q) : ∃ g, X5_card_b113 x h = some (x, g) ∧ CdY g L P Z wd q ∧ g.1 27 0 = nI 0 ∧ g.1 27 1 = nI 0 ∧ g.1 27 2 = nI (w1 L wd) ∧ g.1 27 3 = nI 5 ∧ g.1 27 4 = nI 0 ∧ g.1 27 5 = nI 0 ∧ g.1 20 26 = nI 0 ∧ g.1 28 0 = nI 0 ∧ g.1 28 1 = nI 0 ∧ g.1 20 2 = nI 0 ∧ (∀ o, o < 20 → g.1 o = h.1 o) ∧ g.2 = h.2 := by
  obtain ⟨d1, d2, d3, d4, d5, d6⟩ := d
  have h6 := k.1
  have h10 := k.2.1
  obtain ⟨h0, eh0⟩ : ∃ h0, h0 = sI (sI (sI h 22 0 (h.1 22 1)) 24 0 (h.1 24 1)) 26 0 (h.1 26 1) := ⟨_, rfl⟩
  have r : ∀ o, o ≠ 22 → o ≠ 24 → o ≠ 26 → h0.1 o = h.1 o := fun o q1 q2 q3 => by rw [eh0, sI_row, if_neg q3, sI_row, if_neg q2, sI_row, if_neg q1]
  obtain ⟨g1, e1, x1, a1⟩ := copyL x (h0.1 23) 6 0 (by omega) fu (fu_pos (by omega)) h0 (fun j _ => rfl) (fun j hj => by omega)
  obtain ⟨g2, e2, x2, a2⟩ := copyP x (g1.1 25) 50 0 (by omega) fu (fu_pos (by omega)) g1 (fun j _ => rfl) (fun j hj => by omega)
  have g22 : g2.1 22 0 = nI L := by rw [x2.row (by decide), x1.row (by decide), eh0]; exact d1
  have g24 : g2.1 24 0 = nI P := by rw [x2.row (by decide), x1.row (by decide), eh0]; exact d2
  have g26 : g2.1 26 0 = nI Z := by rw [x2.row (by decide), x1.row (by decide), eh0]; exact d3
  have g23 : ∀ l, l < L → g2.1 23 l = nI (wd l) := fun l hl => by rw [x2.row (by decide), a1 l (by omega), r 23 (by decide) (by decide) (by decide)]; exact d5 l hl
  have g25 : ∀ w, w < P → ∀ j, j < 5 → g2.1 25 (5 * w + j) = nI (q w j) := fun w hw j hj => by rw [a2 _ (by omega), x1.row (by decide), r 25 (by decide) (by decide) (by decide), show 50 + (5 * w + j) = 50 + 5 * w + j by omega]; exact d6 w hw j hj
  have eB : X5_card_b113 x h = cEnd x g2 := by
    unfold X5_card_b113
    rw [if_pos e12, ← eh0]
    exact e1.trans e2
  have eC : cEnd x g2 = X5_card_b262 x 2 (nI (w1 L wd)) (sI (sI g2 27 0 (0 : Int32)) 27 1 (0 : Int32)) := by
    unfold cEnd w1
    by_cases l0 : L = 0
    · rw [g22, if_pos (show nI L ≤ 0 by rw [l0]; decide), if_pos l0]; rfl
    · rw [g22, if_neg (nI_nle (by omega) (by omega)), if_neg l0, g23 0 (by omega)]
  rw [eB, eC]
  unfold X5_card_b262
  rw [i2, st_nI (by omega) (by omega), bind_some']
  refine ⟨_, rfl, ⟨g22, g24, g26, g23, g25⟩, rfl, rfl, rfl, rfl, rfl, rfl, rfl, rfl, rfl, rfl, fun o ho => ?_, ?_⟩
  · rw [sI_row, if_neg (by omega), sI_row, if_neg (by omega), sI_row, if_neg (by omega), sI_row, if_neg (by omega), sI_row, if_neg (by omega), sI_row, if_neg (by omega), sI_row, if_neg (by omega), sI_row, if_neg (by omega), sI_row, if_neg (by omega), sI_row, if_neg (by omega), x2.row (by omega), x1.row (by omega), r o (by omega) (by omega) (by omega)]
  · show g2.2 = h.2
    rw [x2.2, x1.2, eh0]; rfl
theorem end_X {L P Z b it : Nat} {wd : Nat → Nat} {q : Nat → Nat → Nat} (k : Cok L P Z wd q) {h : Hp} (d : DX h L P Z b wd q) (e3 : h.1 1 3 = nI it) : ∃ g, ((X3_become h).bind fun h4 => (X1_begin (sI h4 1 2 (0 : Int32))).bind fun h5 => some ((h5.1 1 3), (sI (sI h5 0 7 (0 : Int32)) 0 10 (0 : Int32)))) = some (nI it, g) ∧ CdX g L P Z wd q ∧ g.1 1 2 = nI 0 ∧ g.1 12 1 = nI 0 ∧ g.1 12 2 = nI 0 ∧ g.1 12 3 = nI (w1 L wd) ∧ g.1 12 4 = nI 5 ∧ g.1 12 5 = nI 0 ∧ g.1 12 7 = nI 0 ∧ g.1 0 7 = nI 0 ∧ g.1 0 10 = nI 0 ∧ (∀ o, 20 ≤ o → g.1 o = h.1 o) ∧ g.2 = h.2 := by
  obtain ⟨d1, d2, d3, d4, d5, d6⟩ := d
  have h6 := k.1
  have h10 := k.2.1
  obtain ⟨h4, e4⟩ : ∃ h4, h4 = sI (sI (sI (sC (sC h 8 0 5 0 6) 9 0 6 0 50) 4 2 (h.1 7 2)) 4 3 (h.1 7 3)) 4 4 (h.1 7 4) := ⟨_, rfl⟩
  have eb : X3_become h = some h4 := by
    unfold X3_become
    rw [show cpc h 8 6 0 5 6 0 6 = some (sC h 8 0 5 0 6) from cpc_nI (sp := 0) (dp := 0) (n := 6) (by omega) (by omega) (by omega) (by omega), bind_some', show cpc (sC h 8 0 5 0 6) 9 50 0 6 50 0 50 = some (sC (sC h 8 0 5 0 6) 9 0 6 0 50) from cpc_nI (sp := 0) (dp := 0) (n := 50) (by omega) (by omega) (by omega) (by omega), bind_some', e4]
    rfl
  have c5 : ∀ l, l < L → h4.1 5 l = nI (wd l) := fun l hl => by
    rw [e4, sI_row, if_neg (by decide), sI_row, if_neg (by decide), sI_row, if_neg (by decide), sC_row, if_neg (by decide), sC_row, if_pos rfl]
    unfold va_cpy
    rw [if_pos (by omega), show 0 + (l - 0) = l by omega]
    exact d5 l hl
  have c6 : ∀ w, w < P → ∀ j, j < 5 → h4.1 6 (5 * w + j) = nI (q w j) := fun w hw j hj => by
    rw [e4, sI_row, if_neg (by decide), sI_row, if_neg (by decide), sI_row, if_neg (by decide), sC_row, if_pos rfl]
    unfold va_cpy
    rw [if_pos (by omega), show 0 + (5 * w + j - 0) = 5 * w + j by omega, sC_row, if_neg (by decide)]
    exact d6 w hw j hj
  have c42 : h4.1 4 2 = nI L := by rw [e4]; exact d1
  have c43 : h4.1 4 3 = nI P := by rw [e4]; exact d2
  have c44 : h4.1 4 4 = nI Z := by rw [e4]; exact d3
  have c13 : h4.1 1 3 = nI it := by rw [e4]; exact e3
  have r : ∀ o, 20 ≤ o → h4.1 o = h.1 o := fun o ho => by rw [e4, sI_row, if_neg (by omega), sI_row, if_neg (by omega), sI_row, if_neg (by omega), sC_row, if_neg (by omega), sC_row, if_neg (by omega)]
  have r2 : h4.2 = h.2 := by rw [e4]; rfl
  obtain ⟨h5, e5⟩ : ∃ h5, h5 = sI (sI (sI h4 1 2 0) 12 1 0) 12 2 0 := ⟨_, rfl⟩
  have cx : CdX h5 L P Z wd q := by
    rw [e5]
    exact ⟨c42, c43, c44, c5, c6⟩
  have ew : X3_wideOf 0 h5 = some (nI (w1 L wd), h5) := by
    unfold X3_wideOf
    rw [hasLine_eq cx k, b2_some]
    unfold w1
    by_cases l0 : L = 0
    · rw [if_neg (show ¬ isIx (0 : Int32) L from fun z => by have := z.2; rw [Int32.toInt_zero] at this; omega), if_pos rfl, if_pos l0]; rfl
    · rw [if_pos (show isIx (0 : Int32) L from ix_nI (j := 0) (by omega) (by omega)), if_neg (by decide), show ld h5 5 6 0 = _ from ld_nI (h := h5) (a := 5) (n := 6) (j := 0) (by omega) (by omega), bind_some', cx.2.2.2.1 0 (by omega), if_neg l0]
  have eg : X1_begin (sI h4 1 2 (0 : Int32)) = some (sI (sI (sI (sI h5 12 3 (nI (w1 L wd))) 12 4 (5 : Int32)) 12 5 (0 : Int32)) 12 7 (0 : Int32)) := by
    unfold X1_begin
    rw [← e5, ew, b2_some]
  rw [eb, bind_some', eg, bind_some']
  refine ⟨sI (sI (sI (sI (sI (sI h5 12 3 (nI (w1 L wd))) 12 4 (5 : Int32)) 12 5 (0 : Int32)) 12 7 (0 : Int32)) 0 7 0) 0 10 0, ?_, cx.of (fun _ _ => rfl) rfl rfl, ?_, ?_, ?_, rfl, rfl, rfl, rfl, rfl, rfl, fun o ho => ?_, ?_⟩
  · rw [show (sI (sI (sI (sI h5 12 3 (nI (w1 L wd))) 12 4 (5 : Int32)) 12 5 (0 : Int32)) 12 7 (0 : Int32)).1 1 3 = nI it by rw [e5]; exact c13]
  · rw [e5]; rfl
  · rw [e5]; rfl
  · rw [e5]; rfl
  · rw [sI_row, if_neg (by omega), sI_row, if_neg (by omega), sI_row, if_neg (by omega), sI_row, if_neg (by omega), sI_row, if_neg (by omega), sI_row, if_neg (by omega), e5, sI_row, if_neg (by omega), sI_row, if_neg (by omega), sI_row, if_neg (by omega), r o ho]
  · show h5.2 = h.2
    rw [e5]; exact r2
