/-! fill, greatest, begun -/
theorem inZ {Z : Nat} {x : Int32} (hZ : Z ≤ 5) (hx : nI Z ≤ x ∧ x ≤ 5) : ∃ s : Nat, Z ≤ s ∧ s ≤ 5 ∧ x = nI s := by
  have h0 : (0 : Int32) ≤ x := Int32.le_trans (nI_pos' (by omega)) hx.1
  obtain ⟨j, hj, rfl⟩ := in05 ⟨h0, hx.2⟩
  exact ⟨j, (nI_leI (by omega) (by omega)).mp hx.1, by omega, rfl⟩
theorem p2_10 {P : Nat} (h : P ≤ 10) : 2 ^ P ≤ 1024 := Nat.pow_le_pow_right (n := 2) (by omega) h
section
variable {L P Z : Nat} {wd : Nat → Nat} {q : Nat → Nat → Nat}
theorem all_X {h : Hp} (c : CdX h L P Z wd q) (k : Cok L P Z wd q) : X3_all h = some (nI (2 ^ P - 1), h) := by
  have := k.2.1
  unfold X3_all
  rw [c.2.1, nI_shl (by omega), i1, pk_sub Nat.one_le_two_pow]
theorem all_Y {h : Hp} (c : CdY h L P Z wd q) (k : Cok L P Z wd q) : X5_all h = some (nI (2 ^ P - 1), h) := by
  have := k.2.1
  unfold X5_all
  rw [c.2.1, nI_shl (by omega), i1, pk_sub Nat.one_le_two_pow]
theorem stt_first {we sz ln : Nat → Nat} {b : Nat} : ∀ {w u}, stt L we sz ln b w = some u → (u.2.2 = true ↔ ∀ v, v < w → b.testBit v = false) := by
  intro w
  induction w with
  | zero => intro u e; cases e; exact ⟨fun _ v hv => by omega, fun _ => rfl⟩
  | succ w ih =>
    intro u e
    cases ht : stt L we sz ln b w with
    | none => have := stt_n ht 1; rw [this] at e; cases e
    | some t =>
      rw [stt_s ht] at e
      cases eb : b.testBit w with
      | true =>
        rw [eb] at e
        have := (pu_ok (stt_ok ht) e).2
        rw [this]
        exact ⟨fun z => (by cases z), fun z => by have := z w (by omega); rw [eb] at this; cases this⟩
      | false =>
        rw [eb] at e
        cases e
        rw [ih ht]
        refine ⟨fun z v hv => ?_, fun z v hv => z v (by omega)⟩
        by_cases ev : v = w
        · rw [ev]; exact eb
        · exact z v (by omega)
theorem no_bits {b P : Nat} (hb : b < 2 ^ P) (h : ∀ v, v < P → b.testBit v = false) : b = 0 := by
  apply Nat.eq_of_testBit_eq
  intro v
  rw [Nat.zero_testBit]
  by_cases hv : v < P
  · exact h v hv
  · exact Nat.testBit_lt_two_pow (Nat.lt_of_lt_of_le hb (Nat.pow_le_pow_right (by omega) (by omega)))
end
theorem ok_fill (x y z : Int32) : OK (X4_fill x y z) (X5_fill x y z) := by
  intro h ⟨L, P, Z, wd, q, R⟩
  obtain ⟨k, cx, cy, -⟩ := id R
  have h10 := k.2.1
  have p10 := p2_10 h10
  have z1 := k.2.2.1
  unfold X4_fill X5_fill
  rw [isSize_eq cx, b2_some]
  by_cases hx : nI Z ≤ x ∧ x ≤ 5
  · obtain ⟨s, s1, s2, rfl⟩ := inZ k.2.2.2.1 hx
    rw [if_pos hx, if_neg (by decide), all_X cx k, b2_some, X4_within_eq, b2_some]
    by_cases hy : (0 : Int32) ≤ y ∧ y ≤ nI (2 ^ P - 1)
    · obtain ⟨b, hb, rfl⟩ := inP (by omega) hy
      have pp := Nat.one_le_two_pow (n := P)
      rw [if_pos hy, if_neg (by decide), X4_within_eq, b2_some]
      by_cases hz : (0 : Int32) ≤ z ∧ z ≤ 1
      · rw [if_pos hz, if_neg (by decide)]
        have preY : ∀ g : Hp, CdY g L P Z wd q → (b2 (X5_isSize (nI s) g) fun v2 h1 => if v2 = 0 then some ((-1 : Int32), h1) else b2 (X5_all h1) fun v5 h4 => b2 (X5_in (nI b) 0 v5 h4) fun v7 h6 => if v7 = 0 then some (-1, h6) else b2 (X5_in z 0 1 h6) fun v10 h9 => if v10 = 0 then some (-1, h9) else (X5_allSizes (nI s) h9).bind fun h12 => b2 (X5_fillBy (nI b) h12) fun v14 h13 => if v14 = 0 then some (-9, h13) else if z = 0 then some (h13.1 20 21, h13) else some (h13.1 20 22, h13)) = (X5_allSizes (nI s) g).bind fun h12 => b2 (X5_fillBy (nI b) h12) fun v14 h13 => if v14 = 0 then some (-9, h13) else if z = 0 then some (h13.1 20 21, h13) else some (h13.1 20 22, h13) := fun g cg => by
          rw [isSize5_eq cg, b2_some, if_pos hx, if_neg (by decide), all_Y cg k, b2_some, X5_in_eq, b2_some, if_pos hy, if_neg (by decide), X5_in_eq, b2_some, if_pos hz, if_neg (by decide)]
        have goY : ∀ g : Hp, Fr h g → ∃ g2, ((X5_allSizes (nI s) g).bind fun h12 => b2 (X5_fillBy (nI b) h12) fun v14 h13 => if v14 = 0 then some ((-9 : Int32), h13) else if z = 0 then some (h13.1 20 21, h13) else some (h13.1 20 22, h13)) = some (match stt L wd (fun _ => s) (lnX q 0) b P with
            | none => -9
            | some u => bif u.2.2 then -9 else if z = 0 then nI u.1 else nI u.2.1, g2) ∧ Fr h g2 := fun g f => by
          obtain ⟨g1, e1, m1, f1⟩ := allSizes_Y k (f.cdY k cy) s
          obtain ⟨g2, e2, x2, a3, -⟩ := fillBy_Y k (b := b) (by omega) (fun _ _ => s2) (by omega) (by omega) m1
          rw [weX0] at e2 a3
          refine ⟨g2, ?_, (f.tr f1).tr x2.fr⟩
          rw [e1, bind_some', e2, b2_some]
          cases est : stt L wd (fun _ => s) (lnX q 0) b P with
          | none => rfl
          | some u =>
            obtain ⟨-, ⟨l1, l2⟩, -⟩ := a3 u est
            rw [if_neg (show ¬ bi (some u).isSome = 0 from (by decide : ¬ bi true = 0))]
            show (if z = 0 then some (g2.1 20 21, g2) else some (g2.1 20 22, g2)) = some (bif u.2.2 then -9 else if z = 0 then nI u.1 else nI u.2.1, g2)
            rw [l1, l2]
            by_cases z0 : z = 0
            · rw [if_pos z0, if_pos z0]
            · rw [if_neg z0, if_neg z0]
        by_cases b0 : b = 0
        · subst b0
          obtain ⟨g2, e2, f2⟩ := goY h (Fr.rf h)
          refine ⟨-9, h, g2, by rw [if_pos (by decide)], ?_, L, P, Z, wd, q, R.fr f2⟩
          rw [preY h cy, e2]
          cases est : stt L wd (fun _ => s) (lnX q 0) 0 P with
          | none => rfl
          | some u =>
            have := (stt_first est).mpr (fun v _ => Nat.zero_testBit v)
            simp [this]
        · rw [if_neg (show ¬ nI b = (0 : Int32) from nI_ne0 (by omega) (by omega))]
          obtain ⟨g, eg, xg, ag⟩ := goesOn_X k cx (s := s) (b := b) (c := 0) (by omega) s2 (by omega) (by omega)
          obtain ⟨g2, e2, f2⟩ := goY g xg.fr
          rw [show X0_goesOn (nI s) (nI b) 0 h = _ from eg, b2_some]
          cases est : stt L wd (fun _ => s) (lnX q 0) b P with
          | none =>
            rw [est] at e2
            refine ⟨-9, g, g2, rfl, ?_, L, P, Z, wd, q, R.fr f2⟩
            rw [preY g (xg.fr.cdY k cy), e2]
          | some u =>
            have nf : u.2.2 = false := by
              cases e : u.2.2 with
              | false => rfl
              | true => exact absurd (no_bits (by omega) ((stt_first est).mp e)) b0
            obtain ⟨⟨p1, p2, -⟩, -⟩ := ag u est
            rw [est] at e2
            have e2 : _ = some (bif u.2.2 then -9 else if z = 0 then nI u.1 else nI u.2.1, g2) := e2
            rw [nf] at e2
            rw [if_neg (show ¬ bi (some u).isSome = 0 from (by decide : ¬ bi true = 0)), p1, p2]
            refine ⟨if z = 0 then nI u.1 else nI u.2.1, g, g2, ?_, ?_, L, P, Z, wd, q, R.fr f2⟩
            · by_cases z0 : z = 0 <;> simp [z0]
            · rw [preY g (xg.fr.cdY k cy)]; exact e2
      · refine ⟨-1, h, h, by rw [if_neg hz, if_pos rfl], ?_, L, P, Z, wd, q, R⟩
        rw [isSize5_eq cy, b2_some, if_pos hx, if_neg (by decide), all_Y cy k, b2_some, X5_in_eq, b2_some, if_pos hy, if_neg (by decide), X5_in_eq, b2_some, if_neg hz, if_pos rfl]
    · refine ⟨-1, h, h, by rw [if_neg hy, if_pos rfl], ?_, L, P, Z, wd, q, R⟩
      rw [isSize5_eq cy, b2_some, if_pos hx, if_neg (by decide), all_Y cy k, b2_some, X5_in_eq, b2_some, if_neg hy, if_pos rfl]
  · refine ⟨-1, h, h, by rw [if_neg hx, if_pos rfl], ?_, L, P, Z, wd, q, R⟩
    rw [isSize5_eq cy, b2_some, if_neg hx, if_pos rfl]
/-! the greatest size -/
def gre (ok : Nat → Bool) (Z : Nat) : Nat → Option Nat
  | 0 => none
  | s + 1 => if s + 1 < Z then none else bif ok (s + 1) then some (s + 1) else gre ok Z s
def gv (o : Option Nat) : Int32 := match o with
  | none => -9
  | some s => nI s
/-- whether all goes on by a size -/
def okS (L P : Nat) (wd : Nat → Nat) (q : Nat → Nat → Nat) (s : Nat) : Bool := (stt L wd (fun _ => s) (lnX q 0) (2 ^ P - 1) P).isSome
section
variable {L P Z : Nat} {wd : Nat → Nat} {q : Nat → Nat → Nat}
theorem gre_X (k : Cok L P Z wd q) : ∀ s, s ≤ 5 → ∀ n, s < n → ∀ h : Hp, CdX h L P Z wd q → ∃ g, X4_greatest_l2 n (nI s) h = some (gv (gre (okS L P wd q) Z s), g) ∧ FX h g := by
  have p10 := p2_10 k.2.1
  have pp := Nat.one_le_two_pow (n := P)
  intro s
  induction s with
  | zero =>
    intro _ n hn h cx
    obtain ⟨n, rfl⟩ : ∃ z, n = z + 1 := ⟨n - 1, by omega⟩
    rw [X4_greatest_l2_s]
    unfold X4_greatest_b2
    rw [cx.2.2.1, if_pos (nI_lt (by have := k.2.2.1; omega) (by have := k.2.2.2.1; omega))]
    exact ⟨h, rfl, FX.rf h⟩
  | succ s ih =>
    intro hs n hn h cx
    obtain ⟨n, rfl⟩ : ∃ z, n = z + 1 := ⟨n - 1, by omega⟩
    rw [X4_greatest_l2_s]
    unfold X4_greatest_b2
    rw [cx.2.2.1]
    unfold gre
    by_cases cz : s + 1 < Z
    · rw [if_pos (nI_lt cz (by have := k.2.2.2.1; omega)), if_pos cz]
      exact ⟨h, rfl, FX.rf h⟩
    · rw [if_neg (nI_nlt (by omega) (by omega)), if_neg cz, all_X cx k, b2_some]
      obtain ⟨g, eg, xg, -⟩ := goesOn_X k cx (s := s + 1) (b := 2 ^ P - 1) (c := 0) (by omega) hs (by omega) (by omega)
      rw [show X0_goesOn (nI (s + 1)) (nI (2 ^ P - 1)) 0 h = _ from eg, b2_some]
      show ∃ g1, (if bi (okS L P wd q (s + 1)) = 0 then _ else _) = _ ∧ _
      cases eo : okS L P wd q (s + 1) with
      | true =>
        rw [if_neg (by decide)]
        exact ⟨g, rfl, xg⟩
      | false =>
        rw [if_pos (show bi false = 0 from rfl), pk_m1]
        obtain ⟨g2, e2, x2⟩ := ih (by omega) n (by omega) g (xg.cd cx)
        exact ⟨g2, e2, xg.tr x2⟩
theorem greatest_X (k : Cok L P Z wd q) {h : Hp} (cx : CdX h L P Z wd q) : ∃ g, X4_greatest h = some (gv (gre (okS L P wd q) Z 5), g) ∧ FX h g := gre_X k 5 (by omega) fu (fu_pos (by omega)) h cx
theorem gre_Y (k : Cok L P Z wd q) : ∀ s, s ≤ 5 → ∀ n, s < n → ∀ h : Hp, CdY h L P Z wd q → ∃ g, X5_greatest_l2 n (nI s) h = some (gv (gre (okS L P wd q) Z s), g) ∧ Fr h g := by
  have p10 := p2_10 k.2.1
  have pp := Nat.one_le_two_pow (n := P)
  intro s
  induction s with
  | zero =>
    intro _ n hn h cy
    obtain ⟨n, rfl⟩ : ∃ z, n = z + 1 := ⟨n - 1, by omega⟩
    rw [X5_greatest_l2_s]
    unfold X5_greatest_b2
    rw [cy.2.2.1, if_pos (nI_lt (by have := k.2.2.1; omega) (by have := k.2.2.2.1; omega))]
    exact ⟨h, rfl, Fr.rf h⟩
  | succ s ih =>
    intro hs n hn h cy
    obtain ⟨n, rfl⟩ : ∃ z, n = z + 1 := ⟨n - 1, by omega⟩
    rw [X5_greatest_l2_s]
    unfold X5_greatest_b2
    rw [cy.2.2.1]
    unfold gre
    by_cases cz : s + 1 < Z
    · rw [if_pos (nI_lt cz (by have := k.2.2.2.1; omega)), if_pos cz]
      exact ⟨h, rfl, Fr.rf h⟩
    · rw [if_neg (nI_nlt (by omega) (by omega)), if_neg cz, all_Y cy k, b2_some]
      obtain ⟨g, eg, fg, -⟩ := goesOn_Y k cy (s := s + 1) (b := 2 ^ P - 1) hs (by omega)
      rw [eg, b2_some]
      show ∃ g1, (if bi (okS L P wd q (s + 1)) = 0 then _ else _) = _ ∧ _
      cases eo : okS L P wd q (s + 1) with
      | true =>
        rw [if_neg (by decide)]
        exact ⟨g, rfl, fg⟩
      | false =>
        rw [if_pos (show bi false = 0 from rfl), pk_m1]
        obtain ⟨g2, e2, x2⟩ := ih (by omega) n (by omega) g (fg.cdY k cy)
        exact ⟨g2, e2, fg.tr x2⟩
end
theorem ok_greatest : OK X4_greatest X5_greatest := by
  intro h ⟨L, P, Z, wd, q, R⟩
  obtain ⟨k, cx, cy, -⟩ := id R
  obtain ⟨g, e, x⟩ := greatest_X k cx
  obtain ⟨g2, e2, f2⟩ := gre_Y k 5 (by omega) fu (fu_pos (by omega)) g (x.fr.cdY k cy)
  exact ⟨_, g, g2, e, e2, L, P, Z, wd, q, R.fr (x.fr.tr f2)⟩
theorem pf_all {b P : Nat} (hb : ∀ v, v < P → b.testBit v = true) : ∀ w, w ≤ P → pf b.testBit w = w := by
  intro w
  induction w with
  | zero => intro _; rfl
  | succ w ih =>
    intro hw
    show pf b.testBit w + (b.testBit w).toNat = w + 1
    rw [ih (by omega), hb w (by omega)]
    rfl
theorem in60 {x : Int32} (hx : (0 : Int32) ≤ x ∧ x ≤ 60) : ∃ j : Nat, j ≤ 60 ∧ x = nI j := inP (n := 60) (by omega) hx
theorem ok_begun (x y : Int32) : OK (X4_begun x y) (X5_begun x y) := by
  intro h ⟨L, P, Z, wd, q, R⟩
  obtain ⟨k, cx, cy, -⟩ := id R
  have h10 := k.2.1
  have p10 := p2_10 h10
  have pp := Nat.one_le_two_pow (n := P)
  unfold X4_begun X5_begun
  rw [isSize_eq cx, b2_some]
  by_cases hx : nI Z ≤ x ∧ x ≤ 5
  · obtain ⟨s, s1, s2, rfl⟩ := inZ k.2.2.2.1 hx
    rw [if_pos hx, if_neg (by decide), X4_within_eq, b2_some]
    by_cases hy : (0 : Int32) ≤ y ∧ y ≤ 60
    · obtain ⟨far, hf, rfl⟩ := in60 hy
      rw [if_pos hy, if_neg (by decide)]
      have hb : ∀ v, v < P → (2 ^ P - 1).testBit v = true := fun v hv => by rw [Nat.testBit_two_pow_sub_one]; simpa using hv
      obtain ⟨g0, e0, x0, -, f0⟩ := begin_X cx k hf
      obtain ⟨g, r, eg, xg, hr⟩ := howFar_loop k (s := s) (far := far) (by have := k.2.2.1; omega) s2 hb P 0 (by omega) fu (fu_pos (by omega)) g0 _ (x0.cd cx) f0 rfl
      have xx := x0.tr xg
      have eX : X0_howFar (nI s) (nI far) h = some (nI r, g) := by
        unfold X0_howFar
        rw [e0, bind_some']
        exact eg
      have cyg := xx.fr.cdY k cy
      obtain ⟨g1, e1, m1, f1⟩ := allSizes_Y k cyg s
      have m2 : MY (sI g1 20 17 (nI far)) L P Z wd q (fun _ => s) far 0 := ⟨m1.1, m1.2.1, rfl, m1.2.2.2⟩
      obtain ⟨g2, e2, x2, a3, a4⟩ := fillBy_Y k (b := 2 ^ P - 1) hf (fun _ _ => s2) (by omega) (by omega) m2
      refine ⟨nI r, g, g2, by rw [eX, b2_some], ?_, L, P, Z, wd, q, R.fr ((xx.fr.tr (f1.s 20 17 _ rfl)).tr x2.fr)⟩
      rw [isSize5_eq cyg, b2_some, if_pos hx, if_neg (by decide), X5_in_eq, b2_some, if_pos hy, if_neg (by decide), e1, bind_some', all_Y m2.1 k, b2_some, e2, b2_some]
      congr 2
      cases est : stt L (weX wd far) (fun _ => s) (lnX q 0) (2 ^ P - 1) P with
      | some u =>
        rw [(a3 u est).1, pf_all hb P (Nat.le_refl P)]
        rcases hr with ⟨-, hr⟩ | ⟨q1, -, q3⟩
        · rw [hr]
        · have := stt_n q3 (P - (r + 1))
          rw [show r + 1 + (P - (r + 1)) = P by omega, est] at this
          cases this
      | none =>
        obtain ⟨r2, b1, b2', b3, b4⟩ := a4 est
        rw [b4, pf_all hb r2 (by omega)]
        rcases hr with ⟨hr, -⟩ | ⟨q1, q2, q3⟩
        · rw [est] at hr; cases hr
        · rcases Nat.lt_trichotomy r r2 with z | z | z
          · have := stt_n q3 (r2 - (r + 1))
            rw [show r + 1 + (r2 - (r + 1)) = r2 by omega] at this
            rw [this] at b2'
            cases b2'
          · rw [z]
          · have := stt_n b3 (r - (r2 + 1))
            rw [show r2 + 1 + (r - (r2 + 1)) = r by omega] at this
            rw [this] at q2
            cases q2
    · refine ⟨-1, h, h, by rw [if_neg hy, if_pos rfl], ?_, L, P, Z, wd, q, R⟩
      rw [isSize5_eq cy, b2_some, if_pos hx, if_neg (by decide), X5_in_eq, b2_some, if_neg hy, if_pos rfl]
  · refine ⟨-1, h, h, by rw [if_neg hx, if_pos rfl], ?_, L, P, Z, wd, q, R⟩
    rw [isSize5_eq cy, b2_some, if_neg hx, if_pos rfl]
