/-! the reference's row in its loop -/
section
variable {n : Nat} {bt : Nat → Nat} {p L P Z b : Nat} {wd : Nat → Nat} {q : Nat → Nat → Nat}
theorem SY.of' {h g : Hp} {k : Nat} (s : SY bt n p L P b h k) (e : ∀ j, 8 ≤ j → j ≤ 12 → g.1 20 j = h.1 20 j) : SY bt n p L P b g k := by
  unfold SY TKY
  rw [e 8 (by omega) (by omega), e 9 (by omega) (by omega), e 10 (by omega) (by omega), e 11 (by omega) (by omega), e 12 (by omega) (by omega)]
  exact s
theorem DY.ch {h g : Hp} (d : DY h L P Z b wd q) (x : Ch 20 JD h g) : DY g L P Z b wd q := by
  obtain ⟨d1, d2, d3, d4, d5, d6⟩ := d
  exact ⟨by rw [x.row (by decide)]; exact d1, by rw [x.row (by decide)]; exact d2, by rw [x.row (by decide)]; exact d3, by rw [x.pl (by decide)]; exact d4, by rw [x.row (by decide)]; exact d5, by rw [x.row (by decide)]; exact d6⟩
theorem JD_sc {j : Nat} (h : JD j) : sc 20 j = true := by
  have h : 8 ≤ j ∧ j ≤ 12 := h
  have : j = 8 ∨ j = 9 ∨ j = 10 ∨ j = 11 ∨ j = 12 := by omega
  rcases this with e | e | e | e | e <;> subst e <;> rfl
theorem mayBe_Y {g : Hp} {t : Tk} (h1 : t.2.1 = 1 → 97 ≤ t.2.2.1 ∧ t.2.2.1 ≤ 122) (h4 : t.2.1 ≤ 4) (hL : L ≤ 6) (hP : P ≤ 10) (hb : b ≤ 1) (d1 : g.1 22 1 = nI L) (d2 : g.1 24 1 = nI P) (d3 : g.1 20 13 = nI b) : X5_mayBe (srt t) g = some (bi (okL L P b t), g) := by
  obtain ⟨v, v1, v2, -, -, -, v6⟩ := srt_cases h1 h4
  unfold X5_mayBe okL
  rw [v2, d1, d2, d3]
  by_cases c1 : v = 108
  · have := (v6 108 (by omega)).mp c1
    rw [if_pos (show nI v = (108 : Int32) by rw [c1]; rfl)]
    by_cases l : L < 6
    · rw [if_neg (show ¬ (6 : Int32) ≤ nI L from nI_ge (b := 6) l (by omega)), decide_eq_true (⟨this.1, Or.inl ⟨this.2, l⟩⟩ : t.2.1 = 1 ∧ (t.2.2.1 = 108 ∧ L < 6 ∨ t.2.2.1 = 119 ∧ P < 10 ∨ t.2.2.1 = 122 ∧ b = 0))]; rfl
    · rw [if_pos (show (6 : Int32) ≤ nI L from nI_le (a := 6) (by omega) (by omega)), decide_eq_false (by omega)]; rfl
  · rw [if_neg (show ¬ nI v = (108 : Int32) from nIne (b := 108) (by omega) (by omega) c1)]
    have n1 := fun z => c1 ((v6 108 (by omega)).mpr z)
    by_cases c2 : v = 119
    · have := (v6 119 (by omega)).mp c2
      rw [if_pos (show nI v = (119 : Int32) by rw [c2]; rfl)]
      by_cases l : P < 10
      · rw [if_neg (show ¬ (10 : Int32) ≤ nI P from nI_ge (b := 10) l (by omega)), decide_eq_true (⟨this.1, Or.inr (Or.inl ⟨this.2, l⟩)⟩ : t.2.1 = 1 ∧ (t.2.2.1 = 108 ∧ L < 6 ∨ t.2.2.1 = 119 ∧ P < 10 ∨ t.2.2.1 = 122 ∧ b = 0))]; rfl
      · rw [if_pos (show (10 : Int32) ≤ nI P from nI_le (a := 10) (by omega) (by omega)), decide_eq_false (by omega)]; rfl
    · rw [if_neg (show ¬ nI v = (119 : Int32) from nIne (b := 119) (by omega) (by omega) c2)]
      have n2 := fun z => c2 ((v6 119 (by omega)).mpr z)
      by_cases c3 : v = 122
      · have := (v6 122 (by omega)).mp c3
        rw [if_pos (show nI v = (122 : Int32) by rw [c3]; rfl)]
        by_cases l : b = 0
        · rw [if_pos (show nI b = (0 : Int32) by rw [l]; rfl), decide_eq_true (⟨this.1, Or.inr (Or.inr ⟨this.2, l⟩)⟩ : t.2.1 = 1 ∧ (t.2.2.1 = 108 ∧ L < 6 ∨ t.2.2.1 = 119 ∧ P < 10 ∨ t.2.2.1 = 122 ∧ b = 0))]; rfl
        · rw [if_neg (show ¬ nI b = (0 : Int32) from nIne (b := 0) (by omega) (by omega) l), decide_eq_false (by omega)]; rfl
      · rw [if_neg (show ¬ nI v = (122 : Int32) from nIne (b := 122) (by omega) (by omega) c3)]
        have n3 := fun z => c3 ((v6 122 (by omega)).mpr z)
        rw [decide_eq_false (fun z => z.2.elim (fun y => n1 ⟨z.1, y.1⟩) (fun y => y.elim (fun y => n2 ⟨z.1, y.1⟩) (fun y => n3 ⟨z.1, y.1⟩)))]; rfl
theorem readRow_Y (hp : p ≤ n) (hP : P ≤ 10) {h : Hp} (t : TY h n bt) (d : DY h L P Z b wd q) (hl : flt bt n p L P b 1 = none) (sy : SY bt n p L P b h 1) : ∃ g, X5_readRow (nI (vl bt n p 0)) h = some g ∧ TY g n bt ∧ SY bt n p L P b g (cnt (vl bt n p 0) + 1) ∧ Fr h g ∧ (flt bt n p L P b (cnt (vl bt n p 0) + 1) = none → DN bt n p L P Z b wd q (DY g)) := by
  obtain ⟨d1, d2, d3, d4, d5, d6⟩ := d
  obtain ⟨kd, lets⟩ := flt_letter hl
  rcases lets with ⟨c, l6⟩ | ⟨c, l10⟩ | ⟨c, b0⟩
  · have ct : cnt (vl bt n p 0) = 1 := by unfold cnt; rw [if_neg (by omega)]
    rw [ct]
    obtain ⟨w, g, e, x, s, v⟩ := num_Y (lo := 1) (hi := 60) hp (i := 0) (by omega) t sy (fun _ _ v9 => by
      rw [c]
      unfold okV
      rw [if_pos rfl]
      exact (in_iff (lo := 1) (hi := 60) (by omega) (by omega) (by omega)).trans (by simp))
    have r : X5_readRow (nI (vl bt n p 0)) h = some (sI (sI g 23 (6 + L) w) 22 1 (nI (L + 1))) := by
      unfold X5_readRow
      rw [c, if_pos (show nI 108 = (108 : Int32) from rfl), e, b2_some, d1, i6, nI_add, st_nI (by omega) (by omega), bind_some', show (sI g 23 (6 + L) w).1 22 1 = nI L by rw [sI_row, if_neg (by decide), x.row (by decide)]; exact d1, i1, nI_add]
    refine ⟨_, r, (t.ch x (by decide)).of rfl rfl, s.of rfl, ?_, fun ef => ⟨fun _ => ?_, fun z => by omega, fun z => by omega⟩⟩
    · exact ((x.fr (fun j => JD_sc)).s 23 (6 + L) w (by simp [sc])).s 22 1 _ rfl
    · have y := DY.ch ⟨d1, d2, d3, d4, d5, d6⟩ x
      obtain ⟨y1, y2, y3, y4, y5, y6⟩ := y
      refine ⟨rfl, y2, y3, y4, fun l hl => ?_, y6⟩
      rw [sI_row, if_neg (by decide), sI_row, if_pos rfl]
      unfold upd ins
      by_cases el : l = L
      · rw [if_pos (by omega), if_pos el]; exact v ef
      · rw [if_neg (by omega), if_neg el]; exact y5 l (by omega)
  · have ct : cnt (vl bt n p 0) = 5 := by unfold cnt; rw [if_pos c]
    rw [ct]
    obtain ⟨g, e, tg, sg, stg, y⟩ := piece_Y hp l10 c t sy d2
    refine ⟨sI g 24 1 (nI (P + 1)), by rw [c]; exact e, tg.of rfl rfl, sg.of rfl, y.fr.s 24 1 _ rfl, fun ef => ⟨fun z => by omega, fun _ => ?_, fun z => by omega⟩⟩
    refine ⟨?_, rfl, ?_, ?_, ?_, ?_⟩
    · rw [sI_row, if_neg (by decide), y.1 22 (by decide) (by decide)]; exact d1
    · rw [sI_row, if_neg (by decide), y.1 26 (by decide) (by decide)]; exact d3
    · rw [sI_row, if_neg (by decide), y.2.1 13 (by decide)]; exact d4
    · rw [sI_row, if_neg (by decide), y.1 23 (by decide) (by decide)]; exact d5
    · intro w hw j hj
      rw [sI_row, if_neg (by decide)]
      unfold ins
      by_cases e : w = P
      · subst e
        rw [if_pos rfl]
        exact stg j hj (flt_b (d := 4 - j) (by rw [show j + 2 + (4 - j) = 5 + 1 by omega]; exact ef))
      · rw [if_neg e, y.2.2.1 _ (by omega)]; exact d6 w (by omega) j hj
  · have ct : cnt (vl bt n p 0) = 1 := by unfold cnt; rw [if_neg (by omega)]
    rw [ct]
    obtain ⟨w, g, e, x, s, v⟩ := num_Y (lo := 1) (hi := 5) hp (i := 0) (by omega) t sy (fun _ _ v9 => by
      rw [c]
      unfold okV
      rw [if_neg (by omega), if_pos rfl]
      exact (in_iff (lo := 1) (hi := 5) (by omega) (by omega) (by omega)).trans (by simp))
    have r : X5_readRow (nI (vl bt n p 0)) h = some (sI (sI g 26 1 w) 20 13 1) := by
      unfold X5_readRow
      rw [c, if_neg (show ¬ nI 122 = (108 : Int32) by decide), if_neg (show ¬ nI 122 = (119 : Int32) by decide), e, b2_some]
    refine ⟨_, r, (t.ch x (by decide)).of rfl rfl, s.of' (fun j h1 h2 => ?_), ?_, fun ef => ⟨fun z => by omega, fun z => by omega, fun _ => ?_⟩⟩
    · rw [sI_row, if_pos rfl, pk_un (by omega)]; rfl
    · exact ((x.fr (fun j => JD_sc)).s 26 1 w rfl).s 20 13 _ rfl
    · have y := DY.ch ⟨d1, d2, d3, d4, d5, d6⟩ x
      obtain ⟨y1, y2, y3, y4, y5, y6⟩ := y
      exact ⟨y1, y2, v ef, rfl, y5, y6⟩
theorem row_Y {it : Nat} (hp : p ≤ n) (hL : L ≤ 6) (hP : P ≤ 10) (hb : b ≤ 1) (K : Int32 → Hp → Option (Int32 × Hp)) {h : Hp} (t : TY h n bt) (d : DY h L P Z b wd q) (e12 : h.1 20 12 = -9) (tk : TKY h (tok bt n p)) (k0 : (tkN bt n p 0).2.1 ≠ 0) :
    ∃ g, Fr h g ∧ (∀ s, flt bt n p L P b (cnt (vl bt n p 0) + 2) = some s → ∃ x, X5_card_b43 K (nI it) h = K x g ∧ g.1 20 12 = nI s) ∧ (flt bt n p L P b (cnt (vl bt n p 0) + 2) = none → X5_card_b43 K (nI it) h = K (nI (it + 1)) g ∧ TY g n bt ∧ g.1 20 12 = -9 ∧ TKY g (tok bt n (psN bt n p (cnt (vl bt n p 0) + 2))) ∧ DN bt n p L P Z b wd q (DY g)) := by
  have n2 := t.1
  have tk0 : TKY h (tkN bt n p 0) := tk
  have sy0 : SY bt n p L P b h 0 := ⟨fun _ => ⟨e12, tk0⟩, fun s z => by cases z⟩
  have tin : _ := tok_in bt hp
  obtain ⟨v, v1, v2, v3, v4, v5, v6⟩ := srt_cases (t := tkN bt n p 0) tin.2.2.2.2.1 tin.2.2.2.2.2
  unfold X5_card_b43
  rw [e12, if_pos rfl, tk0.2.1, if_neg (show ¬ srt (tkN bt n p 0) = (3 : Int32) by rw [v2]; exact nIne (b := 3) (by omega) (by omega) (fun z => k0 (v5.mp z))), mayBe_Y (t := tkN bt n p 0) tin.2.2.2.2.1 tin.2.2.2.2.2 hL hP hb d.1 d.2.1 d.2.2.2.1, b2_some]
  obtain ⟨g, eg, xg, sg⟩ := due_Y (x := bi (okL L P b (tkN bt n p 0))) hp t sy0 (fun _ => by
    show _ ↔ okL L P b (tkN bt n p 0) = false
    cases okL L P b (tkN bt n p 0) with
    | true => exact ⟨fun z => absurd z (by decide), fun z => by cases z⟩
    | false => exact ⟨fun _ => rfl, fun _ => rfl⟩)
  rw [eg, b2_some]
  have fg := xg.fr (fun j => JD_sc)
  have tg := t.ch xg (by decide)
  have dg := d.ch xg
  unfold X5_card_b110 X5_card_b103
  cases ef : flt bt n p L P b 1 with
  | some s =>
    have hs2 := flt_s ef (cnt (vl bt n p 0) + 1)
    rw [show 1 + (cnt (vl bt n p 0) + 1) = cnt (vl bt n p 0) + 2 by omega] at hs2
    have e := sg.2 s ef
    have sl := flt_le hp 1 s ef
    rw [e, if_neg (nI_m9 (by omega)), hs2]
    exact ⟨g, fg, fun s2 z => ⟨_, rfl, by cases z; exact e⟩, fun z => by cases z⟩
  | none =>
    obtain ⟨e12g, -⟩ := sg.1 ef
    obtain ⟨kd, lets⟩ := flt_letter ef
    obtain ⟨g9, e9, t9, s9, f9, D9⟩ := readRow_Y hp hP tg dg ef sg
    rw [if_pos e12g, show srt (tkN bt n p 0) = nI (vl bt n p 0) by unfold srt; rw [if_pos kd]; rfl, e9, bind_some']
    have tin9 : _ := tok_in bt (ps_le hp (cnt (vl bt n p 0) + 1) : psN bt n p (cnt (vl bt n p 0) + 1) ≤ n)
    obtain ⟨u, u1, u2, u3, u4, u5, u6⟩ := srt_cases (t := tkN bt n p (cnt (vl bt n p 0) + 1)) tin9.2.2.2.2.1 tin9.2.2.2.2.2
    have okr : okR L P b (vl bt n p 0) (vl bt n p 1) (cnt (vl bt n p 0) + 1) (tkN bt n p (cnt (vl bt n p 0) + 1)) = ((tkN bt n p (cnt (vl bt n p 0) + 1)).2.1 == 3) := by
      unfold okR
      rw [if_neg (by omega), if_neg (by omega)]
    have fin : ∀ x : Int32, (flt bt n p L P b (cnt (vl bt n p 0) + 1) = none → (x = 0 ↔ okR L P b (vl bt n p 0) (vl bt n p 1) (cnt (vl bt n p 0) + 1) (tkN bt n p (cnt (vl bt n p 0) + 1)) = false)) → ∃ g, Fr h g ∧ (∀ s, flt bt n p L P b (cnt (vl bt n p 0) + 2) = some s → ∃ y, (b2 (X5_due x g9) fun v13 h12 => K (nI it + 1) h12) = K y g ∧ g.1 20 12 = nI s) ∧ (flt bt n p L P b (cnt (vl bt n p 0) + 2) = none → (b2 (X5_due x g9) fun v13 h12 => K (nI it + 1) h12) = K (nI (it + 1)) g ∧ TY g n bt ∧ g.1 20 12 = -9 ∧ TKY g (tok bt n (psN bt n p (cnt (vl bt n p 0) + 2))) ∧ DN bt n p L P Z b wd q (DY g)) := by
      intro x hx
      obtain ⟨g2, eg2, xg2, sg2⟩ := due_Y hp t9 s9 hx
      rw [eg2, b2_some]
      refine ⟨g2, (fg.tr f9).tr (xg2.fr (fun j => JD_sc)), fun s z => ⟨_, rfl, sg2.2 s z⟩, fun z => ⟨by rw [i1, nI_add], t9.ch xg2 (by decide), (sg2.1 z).1, (sg2.1 z).2, ?_⟩⟩
      obtain ⟨D1, D2, D3⟩ := D9 (flt_b (d := 1) z)
      exact ⟨fun z => (D1 z).ch xg2, fun z => (D2 z).ch xg2, fun z => (D3 z).ch xg2⟩
    by_cases q2 : g9.1 20 10 = 2
    · rw [if_pos q2]
      refine fin 1 (fun e => ⟨fun z => absurd z (by decide), fun z => ?_⟩)
      have k2 := (s9.1 e).2.2.1
      rw [q2, u2] at k2
      have := u4.mp ((nI_eq (a := 2) (by omega) (by omega)).mp k2).symm
      rw [okr, this] at z
      cases z
    · rw [if_neg q2]
      refine fin 0 (fun e => ⟨fun _ => ?_, fun _ => rfl⟩)
      have k2 := (s9.1 e).2.2.1
      rw [k2, u2] at q2
      have : ¬ (tkN bt n p (cnt (vl bt n p 0) + 1)).2.1 = 3 := fun z => q2 (by rw [u4.mpr z]; rfl)
      rw [okr]
      simpa using this
end
