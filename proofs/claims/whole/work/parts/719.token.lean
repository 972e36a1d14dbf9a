/-! the tokens of a text -/
def spn (f : Nat → Bool) (bt : Nat → Nat) : Nat → Nat → Nat
  | 0, p => p
  | d + 1, p => bif f (bt p) then spn f bt d (p + 1) else p
theorem spn_in (f : Nat → Bool) (bt : Nat → Nat) : ∀ d p, p ≤ spn f bt d p ∧ spn f bt d p ≤ p + d := by
  intro d
  induction d with
  | zero => intro p; exact ⟨Nat.le_refl p, Nat.le_refl p⟩
  | succ d ih =>
    intro p
    show p ≤ (bif f (bt p) then spn f bt d (p + 1) else p) ∧ (bif f (bt p) then spn f bt d (p + 1) else p) ≤ p + (d + 1)
    cases f (bt p) with
    | false => show p ≤ p ∧ p ≤ _; omega
    | true => have := ih (p + 1); show p ≤ spn f bt d (p + 1) ∧ spn f bt d (p + 1) ≤ _; omega
theorem spn_lt {f : Nat → Bool} {bt : Nat → Nat} {d p : Nat} (hd : 0 < d) (h : f (bt p) = true) : p < spn f bt d p := by
  obtain ⟨d, rfl⟩ : ∃ z, d = z + 1 := ⟨d - 1, by omega⟩
  show p < bif f (bt p) then spn f bt d (p + 1) else p
  rw [h]
  exact (spn_in f bt d (p + 1)).1
def isB (c : Nat) : Bool := c == 32
def isL (c : Nat) : Bool := decide (97 ≤ c ∧ c ≤ 122)
def isD (c : Nat) : Bool := decide (48 ≤ c ∧ c ≤ 57)
def vX (bt : Nat → Nat) : Nat → Nat → Nat → Nat
  | 0, _, v => v
  | d + 1, p, v => bif isD (bt p) then vX bt d (p + 1) (if 100 < v * 10 + bt p - 48 then 100 else v * 10 + bt p - 48) else v
theorem vX_le {bt : Nat → Nat} : ∀ d p v, v ≤ 100 → vX bt d p v ≤ 100 := by
  intro d
  induction d with
  | zero => intro p v hv; exact hv
  | succ d ih =>
    intro p v hv
    show (bif isD (bt p) then vX bt d (p + 1) (if 100 < v * 10 + bt p - 48 then 100 else v * 10 + bt p - 48) else v) ≤ 100
    cases isD (bt p) with
    | false => exact hv
    | true => exact ih _ _ (by split <;> omega)
abbrev Tk := Nat × Nat × Nat × Nat
def tokL (bt : Nat → Nat) (n s : Nat) : Tk := if spn isL bt (n - s) s - s = 1 then ⟨s, 1, bt s, spn isL bt (n - s) s⟩ else ⟨s, 4, 0, spn isL bt (n - s) s⟩
def tokD (bt : Nat → Nat) (n s : Nat) : Tk := if (bt s = 48 ∧ 1 < spn isD bt (n - s) s - s) ∨ 99 < vX bt (n - s) s 0 then ⟨s, 4, 0, spn isD bt (n - s) s⟩ else ⟨s, 2, vX bt (n - s) s 0, spn isD bt (n - s) s⟩
def tokA (bt : Nat → Nat) (n s : Nat) : Tk := if n ≤ s then ⟨s, 0, 0, s⟩ else if isL (bt s) = true then tokL bt n s else if isD (bt s) = true then tokD bt n s else if bt s = 59 then ⟨s, 3, 0, s + 1⟩ else ⟨s, 4, 0, s + 1⟩
def tok (bt : Nat → Nat) (n p : Nat) : Tk := tokA bt n (spn isB bt (n - p) p)
theorem tokA_in (bt : Nat → Nat) {n s : Nat} (hs : s ≤ n) : (tokA bt n s).1 = s ∧ (tokA bt n s).2.2.2 ≤ n ∧ ((tokA bt n s).2.1 ≠ 0 → s < (tokA bt n s).2.2.2) ∧ ((tokA bt n s).2.1 = 2 → (tokA bt n s).2.2.1 ≤ 99) ∧ ((tokA bt n s).2.1 = 1 → 97 ≤ (tokA bt n s).2.2.1 ∧ (tokA bt n s).2.2.1 ≤ 122) ∧ (tokA bt n s).2.1 ≤ 4 := by
  unfold tokA
  have a1 := spn_in isL bt (n - s) s
  have a2 := spn_in isD bt (n - s) s
  by_cases c1 : n ≤ s
  · rw [if_pos c1]
    exact ⟨rfl, hs, fun z => absurd rfl z, (by intro z; cases z), (by intro z; cases z), (by decide : 0 ≤ 4)⟩
  · rw [if_neg c1]
    by_cases c2 : isL (bt s) = true
    · rw [if_pos c2]
      have b1 := spn_lt (d := n - s) (by omega) c2
      have c2 : 97 ≤ bt s ∧ bt s ≤ 122 := of_decide_eq_true c2
      unfold tokL
      by_cases c3 : spn isL bt (n - s) s - s = 1
      · rw [if_pos c3]
        exact ⟨rfl, by show spn isL bt (n - s) s ≤ n; omega, fun z => b1, (by intro z; cases z), fun _ => c2, (by decide : 1 ≤ 4)⟩
      · rw [if_neg c3]
        exact ⟨rfl, by show spn isL bt (n - s) s ≤ n; omega, fun z => b1, (by intro z; cases z), (by intro z; cases z), (by decide : 4 ≤ 4)⟩
    · rw [if_neg c2]
      by_cases c3 : isD (bt s) = true
      · rw [if_pos c3]
        have b1 := spn_lt (d := n - s) (by omega) c3
        unfold tokD
        by_cases c4 : (bt s = 48 ∧ 1 < spn isD bt (n - s) s - s) ∨ 99 < vX bt (n - s) s 0
        · rw [if_pos c4]
          exact ⟨rfl, by show spn isD bt (n - s) s ≤ n; omega, fun z => b1, (by intro z; cases z), (by intro z; cases z), (by decide : 4 ≤ 4)⟩
        · rw [if_neg c4]
          exact ⟨rfl, by show spn isD bt (n - s) s ≤ n; omega, fun z => b1, fun _ => by show vX bt (n - s) s 0 ≤ 99; omega, (by intro z; cases z), (by decide : 2 ≤ 4)⟩
      · rw [if_neg c3]
        by_cases c4 : bt s = 59
        · rw [if_pos c4]
          exact ⟨rfl, by show s + 1 ≤ n; omega, fun z => Nat.lt_succ_self s, (by intro z; cases z), (by intro z; cases z), (by decide : 3 ≤ 4)⟩
        · rw [if_neg c4]
          exact ⟨rfl, by show s + 1 ≤ n; omega, fun z => Nat.lt_succ_self s, (by intro z; cases z), (by intro z; cases z), (by decide : 4 ≤ 4)⟩
theorem tok_in (bt : Nat → Nat) {n p : Nat} (hp : p ≤ n) : (tok bt n p).1 ≤ n ∧ (tok bt n p).2.2.2 ≤ n ∧ ((tok bt n p).2.1 ≠ 0 → p < (tok bt n p).2.2.2) ∧ ((tok bt n p).2.1 = 2 → (tok bt n p).2.2.1 ≤ 99) ∧ ((tok bt n p).2.1 = 1 → 97 ≤ (tok bt n p).2.2.1 ∧ (tok bt n p).2.2.1 ≤ 122) ∧ (tok bt n p).2.1 ≤ 4 := by
  have a := spn_in isB bt (n - p) p
  obtain ⟨b1, b2, b3, b4⟩ := tokA_in bt (n := n) (s := spn isB bt (n - p) p) (by omega)
  unfold tok
  exact ⟨by rw [b1]; omega, b2, fun z => Nat.lt_of_le_of_lt a.1 (b3 z), b4⟩
/-! a change of some places of one cell -/
def Ch (o : Nat) (J : Nat → Prop) (h g : Hp) : Prop := (∀ a j, (a = o → ¬ J j) → g.1 a j = h.1 a j) ∧ g.2 = h.2
theorem Ch.rf {o : Nat} {J : Nat → Prop} (h : Hp) : Ch o J h h := ⟨fun _ _ _ => rfl, rfl⟩
theorem Ch.tr {o : Nat} {J : Nat → Prop} {a b c : Hp} (x : Ch o J a b) (y : Ch o J b c) : Ch o J a c := ⟨fun a j z => (y.1 a j z).trans (x.1 a j z), y.2.trans x.2⟩
theorem Ch.s {o : Nat} {J : Nat → Prop} {a b : Hp} (x : Ch o J a b) {k : Nat} (v : Int32) (hk : J k) : Ch o J a (sI b o k v) := ⟨fun a2 j z => by
  rw [sI_row]
  by_cases e : a2 = o
  · subst e
    rw [if_pos rfl]
    unfold upd
    by_cases e2 : j = k
    · subst e2; exact absurd hk (z rfl)
    · rw [if_neg e2]; exact x.1 _ _ z
  · rw [if_neg e]; exact x.1 _ _ z, x.2⟩
theorem Ch.mono {o : Nat} {J K : Nat → Prop} {a b : Hp} (x : Ch o J a b) (h : ∀ j, J j → K j) : Ch o K a b := ⟨fun a j z => x.1 a j (fun e q => z e (h j q)), x.2⟩
theorem Ch.row {o : Nat} {J : Nat → Prop} {a b : Hp} (x : Ch o J a b) {c : Nat} (h : c ≠ o) : b.1 c = a.1 c := funext fun j => x.1 c j (fun e => absurd e h)
theorem Ch.pl {o : Nat} {J : Nat → Prop} {a b : Hp} (x : Ch o J a b) {j : Nat} (h : ¬ J j) : b.1 o j = a.1 o j := x.1 o j (fun _ => h)
theorem Ch.fr {o : Nat} {J : Nat → Prop} {a b : Hp} (x : Ch o J a b) (h : ∀ j, J j → sc o j = true) : Fr a b := ⟨fun o2 j z => x.1 o2 j (fun e q => by subst e; rw [h j q] at z; cases z), x.2⟩
/-! the class's token -/
def TX (h : Hp) (n : Nat) (bt : Nat → Nat) : Prop := n ≤ 200 ∧ h.1 1 2 = nI n ∧ (∀ i, i < n → h.1 2 i = nI (bt i)) ∧ ∀ i, i < n → bt i < 256
def TKX (g : Hp) (t : Tk) : Prop := g.1 1 5 = nI t.1 ∧ g.1 1 7 = nI t.2.1 ∧ (t.2.1 = 1 ∨ t.2.1 = 2 → g.1 1 8 = nI t.2.2.1) ∧ (t.2.1 ≠ 4 → g.1 1 6 = nI t.2.2.2)
theorem winL {c : Nat} (hc : c < 256) (h : Hp) : X4_within (nI c) 97 122 h = some (bi (isL c), h) := by
  rw [X4_within_eq]
  by_cases e : 97 ≤ c ∧ c ≤ 122
  · rw [if_pos ⟨nI_le (a := 97) e.1 (by omega), nI_le (b := 122) e.2 (by omega)⟩, show isL c = true from decide_eq_true e]; rfl
  · rw [if_neg (fun q => e ⟨(nI_leI (a := 97) (by omega) (by omega)).mp q.1, (nI_leI (b := 122) (by omega) (by omega)).mp q.2⟩), show isL c = false from decide_eq_false e]; rfl
theorem winD {c : Nat} (hc : c < 256) (h : Hp) : X4_within (nI c) 48 57 h = some (bi (isD c), h) := by
  rw [X4_within_eq]
  by_cases e : 48 ≤ c ∧ c ≤ 57
  · rw [if_pos ⟨nI_le (a := 48) e.1 (by omega), nI_le (b := 57) e.2 (by omega)⟩, show isD c = true from decide_eq_true e]; rfl
  · rw [if_neg (fun q => e ⟨(nI_leI (a := 48) (by omega) (by omega)).mp q.1, (nI_leI (b := 57) (by omega) (by omega)).mp q.2⟩), show isD c = false from decide_eq_false e]; rfl
theorem TX.ch {h g : Hp} {n : Nat} {bt : Nat → Nat} {J : Nat → Prop} (t : TX h n bt) (x : Ch 1 J h g) (h2 : ¬ J 2) : TX g n bt := ⟨t.1, by rw [x.pl h2]; exact t.2.1, by rw [x.row (by decide : 2 ≠ 1)]; exact t.2.2.1, t.2.2.2⟩
section
variable {n : Nat} {bt : Nat → Nat}
theorem skip_X : ∀ d p, p + d = n → ∀ m, d < m → ∀ h : Hp, TX h n bt → h.1 1 6 = nI p → ∃ g, X2_step_l0 m h = X2_step_b38 g ∧ Ch 1 (· = 6) h g ∧ g.1 1 6 = nI (spn isB bt d p) := by
  intro d
  induction d with
  | zero =>
    intro p hp m hm h t e6
    obtain ⟨m, rfl⟩ : ∃ z, m = z + 1 := ⟨m - 1, by omega⟩
    have : p = n := by omega
    subst this
    rw [X2_step_l0_s]
    unfold X2_step_b0
    rw [e6, t.2.1, if_pos (Int32.le_refl _)]
    exact ⟨h, rfl, Ch.rf h, e6⟩
  | succ d ih =>
    intro p hp m hm h t e6
    obtain ⟨m, rfl⟩ : ∃ z, m = z + 1 := ⟨m - 1, by omega⟩
    have n2 := t.1
    have b2 := t.2.2.2 p (by omega)
    rw [X2_step_l0_s]
    unfold X2_step_b0
    rw [e6, t.2.1, if_neg (nI_ge (by omega) (by omega)), ld_nI (by omega) (by omega), bind_some', t.2.2.1 p (by omega), i1, nI_add]
    show ∃ g : Hp, _ ∧ _ ∧ g.1 1 6 = nI (bif isB (bt p) then spn isB bt d (p + 1) else p)
    by_cases c : bt p = 32
    · rw [show isB (bt p) = true by unfold isB; rw [c]; rfl, if_pos (show nI (bt p) = (32 : Int32) by rw [c]; rfl)]
      have x := (Ch.rf (o := 1) (J := (· = 6)) h).s (k := 6) (nI (p + 1)) rfl
      obtain ⟨g, e, x2, e2⟩ := ih (p + 1) (by omega) m (by omega) _ (t.ch x (by decide)) rfl
      exact ⟨g, e, x.tr x2, e2⟩
    · rw [show isB (bt p) = false by unfold isB; simpa using c, if_neg (show ¬ nI (bt p) = (32 : Int32) from fun z => c ((nI_eq (b := 32) (by omega) (by omega)).mp z))]
      exact ⟨h, rfl, Ch.rf h, e6⟩
theorem let_X : ∀ d p, p + d = n → ∀ m, d < m → ∀ h : Hp, TX h n bt → h.1 1 6 = nI p → ∃ g, X2_readLetters_l13 m h = X2_readLetters_b56 g ∧ Ch 1 (· = 6) h g ∧ g.1 1 6 = nI (spn isL bt d p) := by
  intro d
  induction d with
  | zero =>
    intro p hp m hm h t e6
    obtain ⟨m, rfl⟩ : ∃ z, m = z + 1 := ⟨m - 1, by omega⟩
    have : p = n := by omega
    subst this
    rw [X2_readLetters_l13_s]
    unfold X2_readLetters_b13
    rw [e6, t.2.1, if_pos (Int32.le_refl _)]
    exact ⟨h, rfl, Ch.rf h, e6⟩
  | succ d ih =>
    intro p hp m hm h t e6
    obtain ⟨m, rfl⟩ : ∃ z, m = z + 1 := ⟨m - 1, by omega⟩
    have n2 := t.1
    have b2 := t.2.2.2 p (by omega)
    rw [X2_readLetters_l13_s]
    unfold X2_readLetters_b13
    rw [e6, t.2.1, if_neg (nI_ge (by omega) (by omega)), ld_nI (by omega) (by omega), bind_some', t.2.2.1 p (by omega), winL b2, b2_some]
    show ∃ g : Hp, _ ∧ _ ∧ g.1 1 6 = nI (bif isL (bt p) then spn isL bt d (p + 1) else p)
    cases isL (bt p) with
    | true =>
      rw [if_neg (by decide : ¬ bi true = 0), e6, i1, nI_add]
      have x := (Ch.rf (o := 1) (J := (· = 6)) h).s (k := 6) (nI (p + 1)) rfl
      obtain ⟨g, e, x2, e2⟩ := ih (p + 1) (by omega) m (by omega) _ (t.ch x (by decide)) rfl
      exact ⟨g, e, x.tr x2, e2⟩
    | false =>
      rw [if_pos (show bi false = 0 from rfl)]
      exact ⟨h, rfl, Ch.rf h, e6⟩
theorem dig_X : ∀ d p, p + d = n → ∀ m, d < m → ∀ (h : Hp) (v : Nat), v ≤ 100 → TX h n bt → h.1 1 6 = nI p → h.1 1 8 = nI v → ∃ g, X2_readDigits_l0 m h = X2_readDigits_b72 g ∧ Ch 1 (fun j => j = 6 ∨ j = 8) h g ∧ g.1 1 6 = nI (spn isD bt d p) ∧ g.1 1 8 = nI (vX bt d p v) := by
  intro d
  induction d with
  | zero =>
    intro p hp m hm h v hv t e6 e8
    obtain ⟨m, rfl⟩ : ∃ z, m = z + 1 := ⟨m - 1, by omega⟩
    have : p = n := by omega
    subst this
    rw [X2_readDigits_l0_s]
    unfold X2_readDigits_b0
    rw [e6, t.2.1, if_pos (Int32.le_refl _)]
    exact ⟨h, rfl, Ch.rf h, e6, e8⟩
  | succ d ih =>
    intro p hp m hm h v hv t e6 e8
    obtain ⟨m, rfl⟩ : ∃ z, m = z + 1 := ⟨m - 1, by omega⟩
    have n2 := t.1
    have b2 := t.2.2.2 p (by omega)
    rw [X2_readDigits_l0_s]
    unfold X2_readDigits_b0
    rw [e6, t.2.1, if_neg (nI_ge (by omega) (by omega)), ld_nI (by omega) (by omega), bind_some', t.2.2.1 p (by omega), winD b2, b2_some]
    show ∃ g : Hp, _ ∧ _ ∧ g.1 1 6 = nI (bif isD (bt p) then spn isD bt d (p + 1) else p) ∧ g.1 1 8 = nI (bif isD (bt p) then vX bt d (p + 1) (if 100 < v * 10 + bt p - 48 then 100 else v * 10 + bt p - 48) else v)
    cases ed : isD (bt p) with
    | true =>
      have c48 : 48 ≤ bt p ∧ bt p ≤ 57 := of_decide_eq_true ed
      have ev : (if (100 : Int32) < nI v * 10 + nI (bt p) - 48 then (100 : Int32) else nI v * 10 + nI (bt p) - 48) = nI (if 100 < v * 10 + bt p - 48 then 100 else v * 10 + bt p - 48) := by
        rw [i10, pk_mul, nI_add, show (48 : Int32) = nI 48 from rfl, pk_sub (by omega)]
        by_cases c : 100 < v * 10 + bt p - 48
        · rw [if_pos c, if_pos (show (100 : Int32) < _ from nI_lt (a := 100) c (by omega))]; rfl
        · rw [if_neg c, if_neg (show ¬ (100 : Int32) < _ from nI_nlt (a := 100) (by omega) (by omega))]
      rw [if_neg (by decide : ¬ bi true = 0), e6, ld_nI (by omega) (by omega), bind_some', t.2.2.1 p (by omega), e8, ev, i1, nI_add]
      have x := ((Ch.rf (o := 1) (J := fun j => j = 6 ∨ j = 8) h).s (k := 8) (nI (if 100 < v * 10 + bt p - 48 then 100 else v * 10 + bt p - 48)) (Or.inr rfl)).s (k := 6) (nI (p + 1)) (Or.inl rfl)
      obtain ⟨g, e, x2, e2⟩ := ih (p + 1) (by omega) m (by omega) _ (if 100 < v * 10 + bt p - 48 then 100 else v * 10 + bt p - 48) (by split <;> omega) (t.ch x (by decide)) rfl rfl
      exact ⟨g, e, x.tr x2, e2⟩
    | false =>
      rw [if_pos (show bi false = 0 from rfl)]
      exact ⟨h, rfl, Ch.rf h, e6, e8⟩
theorem step_X {h : Hp} {p : Nat} (t : TX h n bt) (hp : p ≤ n) (e6 : h.1 1 6 = nI p) : ∃ g, X2_step h = some g ∧ Ch 1 (fun j => 5 ≤ j ∧ j ≤ 8) h g ∧ TKX g (tok bt n p) := by
  have n2 := t.1
  obtain ⟨g0, e0, x0, e06⟩ := skip_X (n - p) p (by omega) fu (fu_pos (by omega)) h t e6
  have t0 := t.ch x0 (by decide)
  have x0' : Ch 1 (fun j => 5 ≤ j ∧ j ≤ 8) h g0 := x0.mono (fun j e => by show 5 ≤ j ∧ j ≤ 8; omega)
  have sb := spn_in isB bt (n - p) p
  obtain ⟨s, es⟩ : ∃ s, s = spn isB bt (n - p) p := ⟨_, rfl⟩
  rw [← es] at e06 sb
  show ∃ g, X2_step_l0 fu h = some g ∧ _ ∧ TKX g (tokA bt n (spn isB bt (n - p) p))
  rw [e0, ← es]
  unfold X2_step_b38 tokA
  rw [e06, t0.2.1]
  by_cases c1 : n ≤ s
  · rw [if_neg (nI_nlt (by omega) (by omega)), if_pos c1]
    refine ⟨_, rfl, ((((x0'.s (k := 5) _ (by decide)).s (k := 7) _ (by decide)).s (k := 8) _ (by decide)).s (k := 7) _ (by decide)), rfl, rfl, fun z => ?_, fun z => e06⟩
    have z : (0 : Nat) = 1 ∨ (0 : Nat) = 2 := z
    omega
  · obtain ⟨g1, eg1⟩ : ∃ g1, g1 = sI (sI (sI g0 1 5 (nI s)) 1 7 4) 1 8 0 := ⟨_, rfl⟩
    have x1 : Ch 1 (fun j => 5 ≤ j ∧ j ≤ 8) h g1 := by
      rw [eg1]
      exact ((x0'.s (k := 5) _ (by decide)).s (k := 7) _ (by decide)).s (k := 8) _ (by decide)
    have t1 : TX g1 n bt := t.ch x1 (by decide)
    have f5 : g1.1 1 5 = nI s := by rw [eg1]; rfl
    have f6 : g1.1 1 6 = nI s := by rw [eg1]; exact e06
    have f7 : g1.1 1 7 = nI 4 := by rw [eg1]; rfl
    have f8 : g1.1 1 8 = nI 0 := by rw [eg1]; rfl
    have bs := t.2.2.2 s (by omega)
    have ls := t1.2.2.1 s (by omega)
    have aL := spn_in isL bt (n - s) s
    have aD := spn_in isD bt (n - s) s
    rw [if_pos (nI_lt (by omega) (by omega)), if_neg c1, ← eg1, ld_nI (by omega) (by omega), bind_some', ls, winL bs, b2_some]
    cases eL : isL (bt s) with
    | true =>
      rw [if_neg (by decide : ¬ bi true = 0), if_pos rfl]
      have y := (Ch.rf (o := 1) (J := fun j => 5 ≤ j ∧ j ≤ 8) g1).s (k := 8) (nI (bt s)) (by decide)
      obtain ⟨g2, e2, x2, e26⟩ := let_X (n - s) s (by omega) fu (fu_pos (by omega)) (sI g1 1 8 (nI (bt s))) (t1.ch y (by decide)) f6
      have x2' : Ch 1 (fun j => 5 ≤ j ∧ j ≤ 8) h g2 := (x1.tr y).tr (x2.mono (fun j e => by show 5 ≤ j ∧ j ≤ 8; omega))
      have g25 : g2.1 1 5 = nI s := by rw [x2.pl (j := 5) (by decide)]; exact f5
      have g28 : g2.1 1 8 = nI (bt s) := by rw [x2.pl (j := 8) (by decide)]; rfl
      unfold X2_readLetters
      rw [f5, ld_nI (by omega) (by omega), bind_some', ls, e2]
      unfold X2_readLetters_b56 tokL
      rw [e26, g25, pk_sub aL.1]
      by_cases c : spn isL bt (n - s) s - s = 1
      · rw [if_pos c, if_pos (show nI (spn isL bt (n - s) s - s) = (1 : Int32) by rw [c]; rfl)]
        exact ⟨_, rfl, x2'.s (k := 7) _ (by decide), g25, rfl, fun _ => g28, fun _ => e26⟩
      · rw [if_neg c, if_neg (show ¬ nI (spn isL bt (n - s) s - s) = (1 : Int32) from fun z => c ((nI_eq (b := 1) (by omega) (by omega)).mp z))]
        refine ⟨_, rfl, x2'.s (k := 7) _ (by decide), g25, rfl, fun z => ?_, fun z => absurd rfl z⟩
        have z : (4 : Nat) = 1 ∨ (4 : Nat) = 2 := z
        omega
    | false =>
      rw [if_pos (show bi false = 0 from rfl), if_neg (by decide), f5, ld_nI (by omega) (by omega), bind_some', ls, winD bs, b2_some]
      cases eD : isD (bt s) with
      | true =>
        rw [if_neg (by decide : ¬ bi true = 0), if_pos rfl]
        obtain ⟨g2, e2, x2, e26, e28⟩ := dig_X (n - s) s (by omega) fu (fu_pos (by omega)) g1 0 (by omega) t1 f6 f8
        have x2' : Ch 1 (fun j => 5 ≤ j ∧ j ≤ 8) h g2 := x1.tr (x2.mono (fun j e => by show 5 ≤ j ∧ j ≤ 8; omega))
        have t2 := t.ch x2' (by decide)
        have vb := vX_le (bt := bt) (n - s) s 0 (by omega)
        have g25 : g2.1 1 5 = nI s := by rw [x2.pl (j := 5) (by decide)]; exact f5
        unfold X2_readDigits
        rw [e2]
        unfold X2_readDigits_b72 X2_readDigits_b103 X2_readDigits_b104 tokD
        rw [g25, e26, e28, pk_sub aD.1, ld_nI (by omega) (by omega), bind_some', t2.2.2.1 s (by omega)]
        have bad : ∃ g, (some (sI g2 1 7 4)).bind (fun h15 => some h15) = some g ∧ Ch 1 (fun j => 5 ≤ j ∧ j ≤ 8) h g ∧ TKX g ⟨s, 4, 0, spn isD bt (n - s) s⟩ := by
          refine ⟨_, rfl, x2'.s (k := 7) _ (by decide), g25, rfl, fun z => ?_, fun z => absurd rfl z⟩
          have z : (4 : Nat) = 1 ∨ (4 : Nat) = 2 := z
          omega
        have fin : ∃ g, (if nI (vX bt (n - s) s 0) ≤ (99 : Int32) then some (sI g2 1 7 2) else some (sI g2 1 7 4)).bind (fun h15 => some h15) = some g ∧ Ch 1 (fun j => 5 ≤ j ∧ j ≤ 8) h g ∧ TKX g (if 99 < vX bt (n - s) s 0 then ⟨s, 4, 0, spn isD bt (n - s) s⟩ else ⟨s, 2, vX bt (n - s) s 0, spn isD bt (n - s) s⟩) := by
          by_cases c : 99 < vX bt (n - s) s 0
          · rw [if_pos c, if_neg (show ¬ nI _ ≤ (99 : Int32) from nI_ge (a := 99) (by omega) (by omega))]
            exact bad
          · rw [if_neg c, if_pos (show nI _ ≤ (99 : Int32) from nI_le (b := 99) (by omega) (by omega))]
            exact ⟨_, rfl, x2'.s (k := 7) _ (by decide), g25, rfl, fun _ => e28, fun _ => e26⟩
        by_cases c48 : bt s = 48
        · rw [if_pos (show nI (bt s) = (48 : Int32) by rw [c48]; rfl)]
          by_cases c1l : 1 < spn isD bt (n - s) s - s
          · rw [if_neg (show ¬ nI _ ≤ (1 : Int32) from nI_ge (a := 1) c1l (by omega)), if_neg (by decide : ¬ (1 : Int32) = 0), if_pos (Or.inl ⟨c48, c1l⟩)]
            exact bad
          · rw [if_pos (show nI _ ≤ (1 : Int32) from nI_le (b := 1) (by omega) (by omega)), if_pos rfl]
            have : (if (bt s = 48 ∧ 1 < spn isD bt (n - s) s - s) ∨ 99 < vX bt (n - s) s 0 then (⟨s, 4, 0, spn isD bt (n - s) s⟩ : Tk) else ⟨s, 2, vX bt (n - s) s 0, spn isD bt (n - s) s⟩) = if 99 < vX bt (n - s) s 0 then ⟨s, 4, 0, spn isD bt (n - s) s⟩ else ⟨s, 2, vX bt (n - s) s 0, spn isD bt (n - s) s⟩ := by simp [c1l]
            rw [this]
            exact fin
        · rw [if_neg (show ¬ nI (bt s) = (48 : Int32) from fun z => c48 ((nI_eq (b := 48) (by omega) (by omega)).mp z)), if_pos rfl]
          have : (if (bt s = 48 ∧ 1 < spn isD bt (n - s) s - s) ∨ 99 < vX bt (n - s) s 0 then (⟨s, 4, 0, spn isD bt (n - s) s⟩ : Tk) else ⟨s, 2, vX bt (n - s) s 0, spn isD bt (n - s) s⟩) = if 99 < vX bt (n - s) s 0 then ⟨s, 4, 0, spn isD bt (n - s) s⟩ else ⟨s, 2, vX bt (n - s) s 0, spn isD bt (n - s) s⟩ := by simp [c48]
          rw [this]
          exact fin
      | false =>
        rw [if_pos (show bi false = 0 from rfl), if_neg (by decide), f5, ld_nI (by omega) (by omega), bind_some', ls]
        by_cases c59 : bt s = 59
        · rw [if_pos (show nI (bt s) = (59 : Int32) by rw [c59]; rfl), if_pos c59, f6, i1, nI_add]
          refine ⟨_, rfl, (x1.s (k := 7) _ (by decide)).s (k := 6) _ (by decide), f5, rfl, fun z => ?_, fun _ => rfl⟩
          have z : (3 : Nat) = 1 ∨ (3 : Nat) = 2 := z
          omega
        · rw [if_neg (show ¬ nI (bt s) = (59 : Int32) from fun z => c59 ((nI_eq (b := 59) (by omega) (by omega)).mp z)), if_neg c59]
          refine ⟨_, rfl, x1, f5, f7, fun z => ?_, fun z => absurd rfl z⟩
          have z : (4 : Nat) = 1 ∨ (4 : Nat) = 2 := z
          omega
end
