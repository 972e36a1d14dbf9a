/-! the reference's token -/
def TY (h : Hp) (n : Nat) (bt : Nat → Nat) : Prop := n ≤ 200 ∧ h.1 20 2 = nI n ∧ (∀ i, i < n → h.1 21 i = (nI (bt i)).toInt8.toInt32) ∧ ∀ i, i < n → bt i < 256
def srt (t : Tk) : Int32 := if t.2.1 = 1 then nI t.2.2.1 else if t.2.1 = 2 then 1 else if t.2.1 = 3 then 2 else if t.2.1 = 0 then 3 else 4
def TKY (g : Hp) (t : Tk) : Prop := g.1 20 9 = nI t.1 ∧ g.1 20 10 = srt t ∧ (t.2.1 = 2 → g.1 20 11 = nI t.2.2.1) ∧ (t.2.1 ≠ 4 → g.1 20 8 = nI t.2.2.2)
theorem TY.ch {h g : Hp} {n : Nat} {bt : Nat → Nat} {J : Nat → Prop} (t : TY h n bt) (x : Ch 20 J h g) (h2 : ¬ J 2) : TY g n bt := ⟨t.1, by rw [x.pl h2]; exact t.2.1, by rw [x.row (by decide : 21 ≠ 20)]; exact t.2.2.1, t.2.2.2⟩
def vY (bt : Nat → Nat) : Nat → Nat → Nat → Nat
  | 0, _, v => v
  | d + 1, p, v => bif isD (bt p) then vY bt d (p + 1) (if v ≤ 99 then 10 * v + bt p - 48 else v) else v
theorem vXY {bt : Nat → Nat} : ∀ d p v w, (v = w ∧ v ≤ 99 ∨ v = 100 ∧ 99 < w) → (vX bt d p v = vY bt d p w ∧ vX bt d p v ≤ 99 ∨ vX bt d p v = 100 ∧ 99 < vY bt d p w) := by
  intro d
  induction d with
  | zero => intro p v w hv; exact hv
  | succ d ih =>
    intro p v w hv
    unfold vX vY
    cases ed : isD (bt p) with
    | false => exact hv
    | true =>
      have c48 : 48 ≤ bt p ∧ bt p ≤ 57 := of_decide_eq_true ed
      refine ih (p + 1) _ _ ?_
      rcases hv with ⟨e, hv⟩ | ⟨e, hv⟩
      · subst e
        rw [if_pos hv]
        by_cases c : 100 < v * 10 + bt p - 48
        · rw [if_pos c]; right; omega
        · rw [if_neg c]
          by_cases c2 : v * 10 + bt p - 48 ≤ 99
          · left; omega
          · right; omega
      · subst e
        rw [if_pos (by omega), if_neg (by omega)]
        right
        exact ⟨rfl, hv⟩
theorem vY_le {bt : Nat → Nat} : ∀ d p v, v ≤ 999 → vY bt d p v ≤ 999 := by
  intro d
  induction d with
  | zero => intro p v hv; exact hv
  | succ d ih =>
    intro p v hv
    unfold vY
    cases ed : isD (bt p) with
    | false => exact hv
    | true =>
      have c48 : 48 ≤ bt p ∧ bt p ≤ 57 := of_decide_eq_true ed
      exact ih _ _ (by split <;> omega)
theorem winL5 {c : Nat} (hc : c < 256) (h : Hp) : X5_in (nI c) 97 122 h = some (bi (isL c), h) := winL hc h
theorem winD5 {c : Nat} (hc : c < 256) (h : Hp) : X5_in (nI c) 48 57 h = some (bi (isD c), h) := winD hc h
theorem nI_m1 {n : Nat} (h : n < 2 ^ 31) : ¬ nI n = (-1 : Int32) := fun z => by
  have : (nI n).toInt = (-1 : Int32).toInt := congrArg Int32.toInt z
  rw [nI_toInt h] at this
  have e9 : (-1 : Int32).toInt = -1 := by decide
  omega
noncomputable def nxB (g : Hp) : Option Hp :=
    b2 (X5_here (sI (sI g 20 9 (g.1 20 8)) 20 11 (0 : Int32))) fun v5 h4 =>
    if 0 ≤ v5 then
      b2 (X5_in v5 (97 : Int32) (122 : Int32) h4) fun v8 h7 =>
      if v8 = 0 then
        b2 (X5_in v5 (48 : Int32) (57 : Int32) h7) fun v11 h10 =>
        if v11 = 0 then
          if v5 = (59 : Int32) then
            some (sI (sI h10 20 8 ((h10.1 20 8) + (1 : Int32))) 20 10 (2 : Int32))
          else
            some (sI (sI h10 20 8 ((h10.1 20 8) + (1 : Int32))) 20 10 (4 : Int32))
        else
          X5_next_l126 fu v5 h10
      else
        X5_next_l63 fu v5 h7
    else
      some (sI h4 20 10 (3 : Int32))
noncomputable def nxL (x1 : Int32) (g : Hp) : Option Hp :=
    if ((g.1 20 8) - (g.1 20 9)) = (1 : Int32) then
      some (sI g 20 10 x1)
    else
      some (sI g 20 10 (4 : Int32))
noncomputable def nxD (x1 : Int32) (g : Hp) : Option Hp :=
    if (99 : Int32) < (g.1 20 11) then
      some (sI g 20 10 (4 : Int32))
    else
      if x1 = (48 : Int32) then
        if ((g.1 20 8) - (g.1 20 9)) ≤ (1 : Int32) then
          some (sI g 20 10 (1 : Int32))
        else
          some (sI g 20 10 (4 : Int32))
      else
        some (sI g 20 10 (1 : Int32))
section
variable {n : Nat} {bt : Nat → Nat}
theorem here_end {h : Hp} (t : TY h n bt) (e8 : h.1 20 8 = nI n) : X5_here h = some (-1, h) := by
  unfold X5_here
  rw [e8, t.2.1, if_pos (Int32.le_refl _)]
theorem here_Y {h : Hp} {p : Nat} (t : TY h n bt) (hp : p < n) (e8 : h.1 20 8 = nI p) : X5_here h = some (nI (bt p), h) := by
  have n2 := t.1
  unfold X5_here
  rw [e8, t.2.1, if_neg (nI_ge (by omega) (by omega)), ld_nI (by omega) (by omega), bind_some', t.2.2.1 p hp, sc_k8 _ (t.2.2.2 p hp)]
theorem skip_Y : ∀ d p, p + d = n → ∀ m, d < m → ∀ h : Hp, TY h n bt → h.1 20 8 = nI p → ∃ g, X5_next_l0 m h = nxB g ∧ Ch 20 (· = 8) h g ∧ g.1 20 8 = nI (spn isB bt d p) := by
  intro d
  induction d with
  | zero =>
    intro p hp m hm h t e8
    obtain ⟨m, rfl⟩ : ∃ z, m = z + 1 := ⟨m - 1, by omega⟩
    have : p = n := by omega
    subst this
    rw [X5_next_l0_s]
    unfold X5_next_b0
    rw [here_end t e8, b2_some, if_neg (by decide)]
    exact ⟨h, rfl, Ch.rf h, e8⟩
  | succ d ih =>
    intro p hp m hm h t e8
    obtain ⟨m, rfl⟩ : ∃ z, m = z + 1 := ⟨m - 1, by omega⟩
    have n2 := t.1
    have b2 := t.2.2.2 p (by omega)
    rw [X5_next_l0_s]
    unfold X5_next_b0
    rw [here_Y t (by omega) e8, b2_some]
    show ∃ g : Hp, _ ∧ _ ∧ g.1 20 8 = nI (bif isB (bt p) then spn isB bt d (p + 1) else p)
    by_cases c : bt p = 32
    · rw [show isB (bt p) = true by unfold isB; rw [c]; rfl, if_pos (show nI (bt p) = (32 : Int32) by rw [c]; rfl), e8, i1, nI_add]
      have x := (Ch.rf (o := 20) (J := (· = 8)) h).s (k := 8) (nI (p + 1)) rfl
      obtain ⟨g, e, x2, e2⟩ := ih (p + 1) (by omega) m (by omega) _ (t.ch x (by decide)) rfl
      exact ⟨g, e, x.tr x2, e2⟩
    · rw [show isB (bt p) = false by unfold isB; simpa using c, if_neg (show ¬ nI (bt p) = (32 : Int32) from fun z => c ((nI_eq (b := 32) (by omega) (by omega)).mp z))]
      exact ⟨h, rfl, Ch.rf h, e8⟩
theorem let_Y (x1 : Int32) : ∀ d p, p + d = n → ∀ m, d < m → ∀ h : Hp, TY h n bt → h.1 20 8 = nI p → ∃ g, X5_next_l63 m x1 h = nxL x1 g ∧ Ch 20 (· = 8) h g ∧ g.1 20 8 = nI (spn isL bt d p) := by
  intro d
  induction d with
  | zero =>
    intro p hp m hm h t e8
    obtain ⟨m, rfl⟩ : ∃ z, m = z + 1 := ⟨m - 1, by omega⟩
    have : p = n := by omega
    subst this
    rw [X5_next_l63_s]
    unfold X5_next_b63
    rw [here_end t e8, b2_some, X5_in_eq, b2_some, if_pos (by decide)]
    exact ⟨h, rfl, Ch.rf h, e8⟩
  | succ d ih =>
    intro p hp m hm h t e8
    obtain ⟨m, rfl⟩ : ∃ z, m = z + 1 := ⟨m - 1, by omega⟩
    have n2 := t.1
    have b2 := t.2.2.2 p (by omega)
    rw [X5_next_l63_s]
    unfold X5_next_b63
    rw [here_Y t (by omega) e8, b2_some, winL5 b2, b2_some]
    show ∃ g : Hp, _ ∧ _ ∧ g.1 20 8 = nI (bif isL (bt p) then spn isL bt d (p + 1) else p)
    cases isL (bt p) with
    | true =>
      rw [if_neg (by decide : ¬ bi true = 0), e8, i1, nI_add]
      have x := (Ch.rf (o := 20) (J := (· = 8)) h).s (k := 8) (nI (p + 1)) rfl
      obtain ⟨g, e, x2, e2⟩ := ih (p + 1) (by omega) m (by omega) _ (t.ch x (by decide)) rfl
      exact ⟨g, e, x.tr x2, e2⟩
    | false =>
      rw [if_pos (show bi false = 0 from rfl)]
      exact ⟨h, rfl, Ch.rf h, e8⟩
theorem dig_Y (x1 : Int32) : ∀ d p, p + d = n → ∀ m, d < m → ∀ (h : Hp) (v : Nat), v ≤ 999 → TY h n bt → h.1 20 8 = nI p → h.1 20 11 = nI v → ∃ g, X5_next_l126 m x1 h = nxD x1 g ∧ Ch 20 (fun j => j = 8 ∨ j = 11) h g ∧ g.1 20 8 = nI (spn isD bt d p) ∧ g.1 20 11 = nI (vY bt d p v) := by
  intro d
  induction d with
  | zero =>
    intro p hp m hm h v hv t e8 e11
    obtain ⟨m, rfl⟩ : ∃ z, m = z + 1 := ⟨m - 1, by omega⟩
    have : p = n := by omega
    subst this
    rw [X5_next_l126_s]
    unfold X5_next_b126
    rw [here_end t e8, b2_some, X5_in_eq, b2_some, if_pos (by decide)]
    exact ⟨h, rfl, Ch.rf h, e8, e11⟩
  | succ d ih =>
    intro p hp m hm h v hv t e8 e11
    obtain ⟨m, rfl⟩ : ∃ z, m = z + 1 := ⟨m - 1, by omega⟩
    have n2 := t.1
    have b2 := t.2.2.2 p (by omega)
    rw [X5_next_l126_s]
    unfold X5_next_b126 X5_next_b172
    rw [here_Y t (by omega) e8, b2_some, winD5 b2, b2_some]
    show ∃ g : Hp, _ ∧ _ ∧ g.1 20 8 = nI (bif isD (bt p) then spn isD bt d (p + 1) else p) ∧ g.1 20 11 = nI (bif isD (bt p) then vY bt d (p + 1) (if v ≤ 99 then 10 * v + bt p - 48 else v) else v)
    cases ed : isD (bt p) with
    | true =>
      have c48 : 48 ≤ bt p ∧ bt p ≤ 57 := of_decide_eq_true ed
      have go : ∀ w, w ≤ 999 → ∃ g : Hp, X5_next_l126 m x1 (sI (sI h 20 11 (nI w)) 20 8 (nI (p + 1))) = nxD x1 g ∧ Ch 20 (fun j => j = 8 ∨ j = 11) h g ∧ g.1 20 8 = nI (spn isD bt d (p + 1)) ∧ g.1 20 11 = nI (vY bt d (p + 1) w) := by
        intro w hw
        have x := ((Ch.rf (o := 20) (J := fun j => j = 8 ∨ j = 11) h).s (k := 11) (nI w) (Or.inr rfl)).s (k := 8) (nI (p + 1)) (Or.inl rfl)
        obtain ⟨g, e, x2, e2⟩ := ih (p + 1) (by omega) m (by omega) _ w hw (t.ch x (by decide)) rfl rfl
        exact ⟨g, e, x.tr x2, e2⟩
      rw [if_neg (by decide : ¬ bi true = 0), e11]
      by_cases c : v ≤ 99
      · rw [if_pos (show nI v ≤ (99 : Int32) from nI_le (b := 99) c (by omega)), if_pos c, here_Y t (by omega) e8, b2_some, i10, pk_mul, nI_add, show (48 : Int32) = nI 48 from rfl, pk_sub (by omega), e8, i1, nI_add]
        exact go _ (by omega)
      · rw [if_neg (show ¬ nI v ≤ (99 : Int32) from nI_ge (a := 99) (by omega) (by omega)), if_neg c, e8, i1, nI_add]
        exact go v hv
    | false =>
      rw [if_pos (show bi false = 0 from rfl)]
      exact ⟨h, rfl, Ch.rf h, e8, e11⟩
theorem next_Y {h : Hp} {p : Nat} (t : TY h n bt) (hp : p ≤ n) (e8 : h.1 20 8 = nI p) : ∃ g, X5_next h = some g ∧ Ch 20 (fun j => 8 ≤ j ∧ j ≤ 11) h g ∧ TKY g (tok bt n p) := by
  have n2 := t.1
  obtain ⟨g0, e0, x0, e08⟩ := skip_Y (n - p) p (by omega) fu (fu_pos (by omega)) h t e8
  have x0' : Ch 20 (fun j => 8 ≤ j ∧ j ≤ 11) h g0 := x0.mono (fun j e => by show 8 ≤ j ∧ j ≤ 11; omega)
  have sb := spn_in isB bt (n - p) p
  obtain ⟨s, es⟩ : ∃ s, s = spn isB bt (n - p) p := ⟨_, rfl⟩
  rw [← es] at e08 sb
  show ∃ g, X5_next_l0 fu h = some g ∧ _ ∧ TKY g (tokA bt n (spn isB bt (n - p) p))
  rw [e0, ← es]
  unfold nxB tokA
  rw [e08]
  obtain ⟨g1, eg1⟩ : ∃ g1, g1 = sI (sI g0 20 9 (nI s)) 20 11 0 := ⟨_, rfl⟩
  have x1 : Ch 20 (fun j => 8 ≤ j ∧ j ≤ 11) h g1 := by
    rw [eg1]
    exact (x0'.s (k := 9) _ (by decide)).s (k := 11) _ (by decide)
  have t1 : TY g1 n bt := t.ch x1 (by decide)
  have f9 : g1.1 20 9 = nI s := by rw [eg1]; rfl
  have f8 : g1.1 20 8 = nI s := by rw [eg1]; exact e08
  have f11 : g1.1 20 11 = nI 0 := by rw [eg1]; rfl
  rw [← eg1]
  by_cases c1 : n ≤ s
  · have : s = n := by omega
    rw [this] at f8
    rw [here_end t1 f8, b2_some, if_neg (by decide), if_pos c1]
    exact ⟨_, rfl, x1.s (k := 10) _ (by decide), f9, rfl, (by intro z; cases z), fun _ => by rw [← this] at f8; exact f8⟩
  · have bs := t.2.2.2 s (by omega)
    have aL := spn_in isL bt (n - s) s
    have aD := spn_in isD bt (n - s) s
    rw [here_Y t1 (by omega) f8, b2_some, if_pos (nI_pos' (by omega)), if_neg c1, winL5 bs, b2_some]
    cases eL : isL (bt s) with
    | true =>
      have cL : 97 ≤ bt s ∧ bt s ≤ 122 := of_decide_eq_true eL
      rw [if_neg (by decide : ¬ bi true = 0), if_pos rfl]
      obtain ⟨g2, e2, x2, e28⟩ := let_Y (nI (bt s)) (n - s) s (by omega) fu (fu_pos (by omega)) g1 t1 f8
      have x2' : Ch 20 (fun j => 8 ≤ j ∧ j ≤ 11) h g2 := x1.tr (x2.mono (fun j e => by show 8 ≤ j ∧ j ≤ 11; omega))
      have g29 : g2.1 20 9 = nI s := by rw [x2.pl (j := 9) (by decide)]; exact f9
      rw [e2]
      unfold nxL tokL
      rw [e28, g29, pk_sub aL.1]
      by_cases c : spn isL bt (n - s) s - s = 1
      · rw [if_pos c, if_pos (show nI (spn isL bt (n - s) s - s) = (1 : Int32) by rw [c]; rfl)]
        exact ⟨_, rfl, x2'.s (k := 10) _ (by decide), g29, rfl, (by intro z; cases z), fun _ => e28⟩
      · rw [if_neg c, if_neg (show ¬ nI (spn isL bt (n - s) s - s) = (1 : Int32) from fun z => c ((nI_eq (b := 1) (by omega) (by omega)).mp z))]
        exact ⟨_, rfl, x2'.s (k := 10) _ (by decide), g29, rfl, (by intro z; cases z), fun z => absurd rfl z⟩
    | false =>
      rw [if_pos (show bi false = 0 from rfl), if_neg (by decide), winD5 bs, b2_some]
      cases eD : isD (bt s) with
      | true =>
        rw [if_neg (by decide : ¬ bi true = 0), if_pos rfl]
        obtain ⟨g2, e2, x2, e28, e211⟩ := dig_Y (nI (bt s)) (n - s) s (by omega) fu (fu_pos (by omega)) g1 0 (by omega) t1 f8 f11
        have x2' : Ch 20 (fun j => 8 ≤ j ∧ j ≤ 11) h g2 := x1.tr (x2.mono (fun j e => by show 8 ≤ j ∧ j ≤ 11; omega))
        have g29 : g2.1 20 9 = nI s := by rw [x2.pl (j := 9) (by decide)]; exact f9
        have vb := vY_le (bt := bt) (n - s) s 0 (by omega)
        have vv := vXY (bt := bt) (n - s) s 0 0 (by omega)
        have bad : ∃ g, some (sI g2 20 10 4) = some g ∧ Ch 20 (fun j => 8 ≤ j ∧ j ≤ 11) h g ∧ TKY g (s, 4, 0, spn isD bt (n - s) s) := ⟨_, rfl, x2'.s (k := 10) _ (by decide), g29, rfl, (by intro z; cases z), fun z => absurd rfl z⟩
        have good : vX bt (n - s) s 0 = vY bt (n - s) s 0 → ∃ g, some (sI g2 20 10 1) = some g ∧ Ch 20 (fun j => 8 ≤ j ∧ j ≤ 11) h g ∧ TKY g (s, 2, vX bt (n - s) s 0, spn isD bt (n - s) s) := fun ev => ⟨_, rfl, x2'.s (k := 10) _ (by decide), g29, rfl, fun _ => by show g2.1 20 11 = nI (vX bt (n - s) s 0); rw [ev]; exact e211, fun _ => e28⟩
        rw [e2]
        unfold nxD tokD
        rw [g29, e28, e211, pk_sub aD.1]
        by_cases c99 : 99 < vY bt (n - s) s 0
        · rw [if_pos (show (99 : Int32) < nI _ from nI_lt (a := 99) c99 (by omega)), if_pos (Or.inr (by omega))]
          exact bad
        · have ev : vX bt (n - s) s 0 = vY bt (n - s) s 0 := by omega
          rw [if_neg (show ¬ (99 : Int32) < nI _ from nI_nlt (a := 99) (by omega) (by omega))]
          by_cases c48 : bt s = 48
          · rw [if_pos (show nI (bt s) = (48 : Int32) by rw [c48]; rfl)]
            by_cases c1l : 1 < spn isD bt (n - s) s - s
            · rw [if_neg (show ¬ nI _ ≤ (1 : Int32) from nI_ge (a := 1) c1l (by omega)), if_pos (Or.inl ⟨c48, c1l⟩)]
              exact bad
            · rw [if_pos (show nI _ ≤ (1 : Int32) from nI_le (b := 1) (by omega) (by omega)), if_neg (by omega)]
              exact good ev
          · rw [if_neg (show ¬ nI (bt s) = (48 : Int32) from fun z => c48 ((nI_eq (b := 48) (by omega) (by omega)).mp z)), if_neg (by omega)]
            exact good ev
      | false =>
        rw [if_pos (show bi false = 0 from rfl), if_neg (show ¬ false = true by decide), f8, i1, nI_add]
        by_cases c59 : bt s = 59
        · rw [if_pos (show nI (bt s) = (59 : Int32) by rw [c59]; rfl), if_pos c59]
          exact ⟨_, rfl, (x1.s (k := 8) _ (by decide)).s (k := 10) _ (by decide), f9, rfl, (by intro z; cases z), fun _ => rfl⟩
        · rw [if_neg (show ¬ nI (bt s) = (59 : Int32) from fun z => c59 ((nI_eq (b := 59) (by omega) (by omega)).mp z)), if_neg c59]
          exact ⟨_, rfl, (x1.s (k := 8) _ (by decide)).s (k := 10) _ (by decide), f9, rfl, (by intro z; cases z), fun z => absurd rfl z⟩
end
