/-! one row, read by the class -/
def ins {α : Type} (f : Nat → α) (k : Nat) (x : α) : Nat → α := fun j => if j = k then x else f j
def DX (h : Hp) (L P Z b : Nat) (wd : Nat → Nat) (q : Nat → Nat → Nat) : Prop := h.1 7 2 = nI L ∧ h.1 7 3 = nI P ∧ h.1 7 4 = nI Z ∧ h.1 1 4 = nI b ∧ (∀ l, l < L → h.1 8 l = nI (wd l)) ∧ ∀ w, w < P → ∀ j, j < 5 → h.1 9 (5 * w + j) = nI (q w j)
/-- the card with one row more -/
def DN (bt : Nat → Nat) (n p L P Z b : Nat) (wd : Nat → Nat) (q : Nat → Nat → Nat) (D : Nat → Nat → Nat → Nat → (Nat → Nat) → (Nat → Nat → Nat) → Prop) : Prop :=
  (vl bt n p 0 = 108 → D (L + 1) P Z b (ins wd L (vl bt n p 1)) q) ∧ (vl bt n p 0 = 119 → D L (P + 1) Z b wd (ins q P (fun j => vl bt n p (j + 1)))) ∧ (vl bt n p 0 = 122 → D L P (vl bt n p 1) 1 wd q)
section
variable {n : Nat} {bt : Nat → Nat} {p L P Z b : Nat} {wd : Nat → Nat} {q : Nat → Nat → Nat}
theorem mayBegin_X {g : Hp} {t : Tk} (hv : t.2.1 = 1 → t.2.2.1 ≤ 122) (hk : t.2.1 ≤ 4) (hL : L ≤ 6) (hP : P ≤ 10) (hb : b ≤ 1) (e7 : g.1 1 7 = nI t.2.1) (e8 : t.2.1 = 1 ∨ t.2.1 = 2 → g.1 1 8 = nI t.2.2.1) (d1 : g.1 7 2 = nI L) (d2 : g.1 7 3 = nI P) (d3 : g.1 1 4 = nI b) : X2_mayBegin g = some (bi (okL L P b t), g) := by
  unfold X2_mayBegin okL
  rw [e7]
  by_cases k1 : t.2.1 = 1
  · have v := hv k1
    rw [if_pos (show nI t.2.1 = (1 : Int32) by rw [k1]; rfl), e8 (Or.inl k1), d1, d2, d3]
    by_cases c1 : t.2.2.1 = 108
    · rw [if_pos (show nI t.2.2.1 = (108 : Int32) by rw [c1]; rfl)]
      by_cases l : L < 6
      · rw [if_neg (show ¬ (6 : Int32) ≤ nI L from nI_ge (b := 6) l (by omega)), decide_eq_true (⟨k1, Or.inl ⟨c1, l⟩⟩ : t.2.1 = 1 ∧ (t.2.2.1 = 108 ∧ L < 6 ∨ t.2.2.1 = 119 ∧ P < 10 ∨ t.2.2.1 = 122 ∧ b = 0))]; rfl
      · rw [if_pos (show (6 : Int32) ≤ nI L from nI_le (a := 6) (by omega) (by omega)), decide_eq_false (by omega)]; rfl
    · rw [if_neg (show ¬ nI t.2.2.1 = (108 : Int32) from nIne (b := 108) (by omega) (by omega) c1)]
      by_cases c2 : t.2.2.1 = 119
      · rw [if_pos (show nI t.2.2.1 = (119 : Int32) by rw [c2]; rfl)]
        by_cases l : P < 10
        · rw [if_neg (show ¬ (10 : Int32) ≤ nI P from nI_ge (b := 10) l (by omega)), decide_eq_true (⟨k1, Or.inr (Or.inl ⟨c2, l⟩)⟩ : t.2.1 = 1 ∧ (t.2.2.1 = 108 ∧ L < 6 ∨ t.2.2.1 = 119 ∧ P < 10 ∨ t.2.2.1 = 122 ∧ b = 0))]; rfl
        · rw [if_pos (show (10 : Int32) ≤ nI P from nI_le (a := 10) (by omega) (by omega)), decide_eq_false (by omega)]; rfl
      · rw [if_neg (show ¬ nI t.2.2.1 = (119 : Int32) from nIne (b := 119) (by omega) (by omega) c2)]
        by_cases c3 : t.2.2.1 = 122
        · rw [if_pos (show nI t.2.2.1 = (122 : Int32) by rw [c3]; rfl)]
          by_cases l : b = 0
          · rw [if_pos (show nI b = (0 : Int32) by rw [l]; rfl), decide_eq_true (⟨k1, Or.inr (Or.inr ⟨c3, l⟩)⟩ : t.2.1 = 1 ∧ (t.2.2.1 = 108 ∧ L < 6 ∨ t.2.2.1 = 119 ∧ P < 10 ∨ t.2.2.1 = 122 ∧ b = 0))]; rfl
          · rw [if_neg (show ¬ nI b = (0 : Int32) from nIne (b := 0) (by omega) (by omega) l), decide_eq_false (by omega)]; rfl
        · rw [if_neg (show ¬ nI t.2.2.1 = (122 : Int32) from nIne (b := 122) (by omega) (by omega) c3), decide_eq_false (by omega)]; rfl
  · rw [if_neg (show ¬ nI t.2.1 = (1 : Int32) from nIne (b := 1) (by omega) (by omega) k1), decide_eq_false (fun z => k1 z.1)]; rfl
theorem row_X {it : Nat} (hp : p ≤ n) (hL : L ≤ 6) (hP : P ≤ 10) (hb : b ≤ 1) (hit : it ≤ 17) (K : Hp → Option (Int32 × Hp)) {h : Hp} (t : TX h n bt) (d : DX h L P Z b wd q) (e6 : h.1 1 6 = nI p) (e3 : h.1 1 3 = nI it) (k0 : (tkN bt n p 0).2.1 ≠ 0) :
    ∃ g, Fr h g ∧ (∀ s, flt bt n p L P b (cnt (vl bt n p 0) + 2) = some s → X2_tellTo_b19 K h = some (nI s, g)) ∧ (flt bt n p L P b (cnt (vl bt n p 0) + 2) = none → X2_tellTo_b19 K h = K g ∧ g.1 1 6 = nI (psN bt n p (cnt (vl bt n p 0) + 2)) ∧ g.1 1 3 = nI (it + 1) ∧ DN bt n p L P Z b wd q (DX g)) := by
  obtain ⟨d1, d2, d3, d4, d5, d6⟩ := d
  obtain ⟨g, eg, xg, kg⟩ := step_X t hp e6
  obtain ⟨k1, k2, k3, k4⟩ : TKX g (tkN bt n p 0) := kg
  have tin : _ := tok_in bt hp
  have tin4 : (tkN bt n p 0).2.1 = 1 → (tkN bt n p 0).2.2.1 ≤ 122 := fun z => (tin.2.2.2.2.1 z).2
  have tin5 : (tkN bt n p 0).2.1 ≤ 4 := tin.2.2.2.2.2
  have x := NX.ch xg
  have t1 := x.tx t
  have h7 : g.1 7 = h.1 7 := x.1 7 (by decide) (by decide)
  have h14 : g.1 1 4 = h.1 1 4 := x.2.1 4 (by decide)
  unfold X2_tellTo_b19
  rw [e3, if_neg (show ¬ (17 : Int32) < nI it from nI_nlt (a := 17) hit (by omega)), eg, bind_some', k2, if_neg (nI_ne0 (by omega) (by omega)), mayBegin_X (t := tkN bt n p 0) tin4 tin5 hL hP hb k2 k3 (by rw [h7]; exact d1) (by rw [h7]; exact d2) (by rw [h14]; exact d4), b2_some]
  have hs := flt_n (show flt bt n p L P b 0 = none from rfl)
  unfold okR at hs
  rw [if_pos rfl] at hs
  cases eo : okL L P b (tkN bt n p 0) with
  | false =>
    rw [eo] at hs
    have hs : flt bt n p L P b 1 = some (tkN bt n p 0).1 := hs
    have hs2 := flt_s hs (cnt (vl bt n p 0) + 1)
    rw [show 1 + (cnt (vl bt n p 0) + 1) = cnt (vl bt n p 0) + 2 by omega] at hs2
    rw [if_pos (show bi false = 0 from rfl), hs2, k1]
    exact ⟨g, x.fr, fun s z => by cases z; rfl, fun z => by cases z⟩
  | true =>
    rw [eo] at hs
    have hs : flt bt n p L P b 1 = none := hs
    obtain ⟨kd, lets⟩ := flt_letter hs
    have c256 : vl bt n p 0 < 256 := by omega
    have e8 : g.1 1 8 = nI (vl bt n p 0) := k3 (Or.inl kd)
    have g6 : g.1 1 6 = nI (psN bt n p (0 + 1)) := k4 (by rw [kd]; decide)
    rw [if_neg (by decide : ¬ bi true = 0), e8]
    obtain ⟨g2, x2, r1, r2⟩ := nums_X (b := b) hp hP hs (cnt (vl bt n p 0)) 0 (by omega) fu (fu_pos (by unfold cnt; split <;> omega)) g hs t1 g6 (by rw [h7]; exact d2) (fun j hj => by omega)
    have rn : X2_readNumbers (nI (vl bt n p 0)) g = X2_readNumbers_l15 fu (nI (vl bt n p 0)) (nI (cnt (vl bt n p 0))) (nI 0) g := by
      unfold X2_readNumbers X2_readNumbers_b11 cnt
      by_cases c : vl bt n p 0 = 119
      · rw [if_pos c, if_pos (show nI (vl bt n p 0) = (119 : Int32) by rw [c]; rfl)]; rfl
      · rw [if_neg c, if_neg (show ¬ nI (vl bt n p 0) = (119 : Int32) from nIne (b := 119) (by omega) (by omega) c)]; rfl
    rw [rn]
    have x12 := x.tr x2
    cases ef : flt bt n p L P b (cnt (vl bt n p 0) + 1) with
    | some s0 =>
      obtain ⟨q1, q2⟩ := r1 s0 ef
      have hs2 := flt_s ef 1
      rw [q1, b2_some, if_pos rfl, hs2, q2]
      exact ⟨g2, x12.fr, fun s z => by cases z; rfl, fun z => by cases z⟩
    | none =>
      obtain ⟨q1, q2, q3⟩ := r2 ef
      obtain ⟨g3, eg3, xg3, kg3⟩ := step_X (x12.tx t) (ps_le hp (cnt (vl bt n p 0) + 1)) q2
      obtain ⟨m1, m2, m3, m4⟩ : TKX g3 (tkN bt n p (cnt (vl bt n p 0) + 1)) := kg3
      have x3 := x12.tr (NX.ch xg3)
      have tin6 : (tkN bt n p (cnt (vl bt n p 0) + 1)).2.1 ≤ 4 := (tok_in bt (ps_le hp (cnt (vl bt n p 0) + 1))).2.2.2.2.2
      have hf := flt_n ef
      unfold okR at hf
      rw [if_neg (by omega), if_neg (by omega)] at hf
      rw [q1, b2_some, if_neg (by decide : ¬ (1 : Int32) = 0), eg3, bind_some', m2]
      by_cases ks : (tkN bt n p (cnt (vl bt n p 0) + 1)).2.1 = 3
      · rw [ks] at hf
        have hf : flt bt n p L P b (cnt (vl bt n p 0) + 2) = none := hf
        rw [if_pos (show nI (tkN bt n p (cnt (vl bt n p 0) + 1)).2.1 = (3 : Int32) by rw [ks]; rfl), hf]
        have y7 : g3.1 7 = h.1 7 := x3.1 7 (by decide) (by decide)
        have y8 : g3.1 8 = h.1 8 := x3.1 8 (by decide) (by decide)
        have y9 : g3.1 9 = h.1 9 := x3.1 9 (by decide) (by decide)
        have y14 : g3.1 1 4 = h.1 1 4 := x3.2.1 4 (by decide)
        have y13 : g3.1 1 3 = h.1 1 3 := x3.2.1 3 (by decide)
        have y3 : ∀ j, j < cnt (vl bt n p 0) → g3.1 3 j = nI (vl bt n p (j + 1)) := fun j hj => by rw [xg3.row (by decide)]; exact q3 j hj
        have y16 : g3.1 1 6 = nI (psN bt n p (cnt (vl bt n p 0) + 2)) := m4 (by rw [ks]; decide)
        unfold X2_tell
        rcases lets with ⟨c, l6⟩ | ⟨c, l10⟩ | ⟨c, b0⟩
        · have ct : cnt (vl bt n p 0) = 1 := by unfold cnt; rw [if_neg (by omega)]
          unfold X3_addLine_7
          rw [if_pos (show nI (vl bt n p 0) = (108 : Int32) by rw [c]; rfl), y7, d1, if_neg (show ¬ (6 : Int32) ≤ nI L from nI_ge (b := 6) l6 (by omega)), y3 0 (by omega), st_nI (by omega) (by omega), bind_some']
          refine ⟨sI (sI (sI g3 8 L (nI (vl bt n p (0 + 1)))) 7 2 (g3.1 7 2 + 1)) 1 3 (g3.1 1 3 + 1), ?_, (fun s z => by cases z), fun _ => ⟨rfl, y16, ?_, ?_, ?_, ?_⟩⟩
          · exact ((x3.fr.s 8 L _ rfl).s 7 2 _ rfl).s 1 3 _ rfl
          · show g3.1 1 3 + 1 = _
            rw [y13, e3, i1, nI_add]
          · intro _
            refine ⟨?_, ?_, ?_, ?_, ?_, ?_⟩
            · show g3.1 7 2 + 1 = _
              rw [y7, d1, i1, nI_add]
            · show g3.1 7 3 = _
              rw [y7]; exact d2
            · show g3.1 7 4 = _
              rw [y7]; exact d3
            · show g3.1 1 4 = _
              rw [y14]; exact d4
            · intro l hl
              rw [sI_row, if_neg (by decide), sI_row, if_neg (by decide), sI_row, if_pos rfl]
              unfold upd ins
              by_cases e : l = L
              · rw [if_pos e, if_pos e]
              · rw [if_neg e, if_neg e, y8]; exact d5 l (by omega)
            · intro w hw j hj
              show g3.1 9 (5 * w + j) = _
              rw [y9]; exact d6 w hw j hj
          · intro z; omega
          · intro z; omega
        · have ct : cnt (vl bt n p 0) = 5 := by unfold cnt; rw [if_pos c]
          unfold X3_addPiece_7
          rw [if_neg (show ¬ nI (vl bt n p 0) = (108 : Int32) from nIne (b := 108) (by omega) (by omega) (by omega)), if_pos (show nI (vl bt n p 0) = (119 : Int32) by rw [c]; rfl), y7, d2, if_neg (show ¬ (10 : Int32) ≤ nI P from nI_ge (b := 10) l10 (by omega)), if_neg (by decide : ¬ (5 : Int32) < 5), i5, pk_mul, show cpc g3 3 5 0 9 50 (nI (P * 5)) (nI 5) = _ from cpc_nI (h := g3) (a := 3) (na := 5) (b := 9) (nb := 50) (sp := 0) (dp := P * 5) (n := 5) (by omega) (by omega) (by omega) (by omega), bind_some', bind_some']
          refine ⟨sI (sI (sC g3 3 0 9 (P * 5) 5) 7 3 (g3.1 7 3 + 1)) 1 3 (g3.1 1 3 + 1), ?_, (fun s z => by cases z), fun _ => ⟨rfl, y16, ?_, ?_, ?_, ?_⟩⟩
          · have f : Fr h (sC g3 3 0 9 (P * 5) 5) := ⟨fun o j z => by
              rw [sC_row]
              by_cases e : o = 9
              · subst e; cases z
              · rw [if_neg e]; exact x3.fr.1 o j z, x3.fr.2⟩
            exact (f.s 7 3 _ rfl).s 1 3 _ rfl
          · show g3.1 1 3 + 1 = _
            rw [y13, e3, i1, nI_add]
          · intro z; omega
          · intro _
            refine ⟨?_, ?_, ?_, ?_, ?_, ?_⟩
            · show g3.1 7 2 = _
              rw [y7]; exact d1
            · show g3.1 7 3 + 1 = _
              rw [y7, d2, i1, nI_add]
            · show g3.1 7 4 = _
              rw [y7]; exact d3
            · show g3.1 1 4 = _
              rw [y14]; exact d4
            · intro l hl
              show g3.1 8 l = _
              rw [y8]; exact d5 l hl
            · intro w hw j hj
              rw [sI_row, if_neg (by decide), sI_row, if_neg (by decide), sC_row, if_pos rfl]
              unfold va_cpy ins
              by_cases e : w = P
              · subst e
                rw [if_pos (by omega), if_pos rfl, show 0 + (5 * w + j - w * 5) = j by omega]
                exact y3 j (by omega)
              · rw [if_neg (by omega), if_neg e, y9]; exact d6 w (by omega) j hj
          · intro z; omega
        · have ct : cnt (vl bt n p 0) = 1 := by unfold cnt; rw [if_neg (by omega)]
          rw [if_neg (show ¬ nI (vl bt n p 0) = (108 : Int32) from nIne (b := 108) (by omega) (by omega) (by omega)), if_neg (show ¬ nI (vl bt n p 0) = (119 : Int32) from nIne (b := 119) (by omega) (by omega) (by omega)), bind_some']
          refine ⟨sI (sI (sI g3 7 4 (g3.1 3 0)) 1 4 1) 1 3 (g3.1 1 3 + 1), ?_, (fun s z => by cases z), fun _ => ⟨rfl, y16, ?_, ?_, ?_, ?_⟩⟩
          · exact ((x3.fr.s 7 4 _ rfl).s 1 4 _ rfl).s 1 3 _ rfl
          · show g3.1 1 3 + 1 = _
            rw [y13, e3, i1, nI_add]
          · intro z; omega
          · intro z; omega
          · intro _
            refine ⟨?_, ?_, ?_, rfl, ?_, ?_⟩
            · show g3.1 7 2 = _
              rw [y7]; exact d1
            · show g3.1 7 3 = _
              rw [y7]; exact d2
            · exact y3 0 (by omega)
            · intro l hl
              show g3.1 8 l = _
              rw [y8]; exact d5 l hl
            · intro w hw j hj
              show g3.1 9 (5 * w + j) = _
              rw [y9]; exact d6 w hw j hj
      · rw [show ((tkN bt n p (cnt (vl bt n p 0) + 1)).2.1 == 3) = false by simpa using ks] at hf
        have hf : flt bt n p L P b (cnt (vl bt n p 0) + 2) = some (tkN bt n p (cnt (vl bt n p 0) + 1)).1 := hf
        rw [if_neg (show ¬ nI (tkN bt n p (cnt (vl bt n p 0) + 1)).2.1 = (3 : Int32) from nIne (b := 3) (by omega) (by omega) ks), hf, m1]
        exact ⟨g3, x3.fr, fun s z => by cases z; rfl, fun z => by cases z⟩
end
