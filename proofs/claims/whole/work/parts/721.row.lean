/-! a row of a card -/
def psN (bt : Nat → Nat) (n p : Nat) : Nat → Nat
  | 0 => p
  | k + 1 => (tok bt n (psN bt n p k)).2.2.2
def tkN (bt : Nat → Nat) (n p k : Nat) : Tk := tok bt n (psN bt n p k)
def vl (bt : Nat → Nat) (n p k : Nat) : Nat := (tkN bt n p k).2.2.1
def okV (c P a i v : Nat) : Bool := if c = 108 then decide (1 ≤ v ∧ v ≤ 60) else if c = 122 then decide (1 ≤ v ∧ v ≤ 5) else if i = 0 then decide (1 ≤ v ∧ v ≤ 12) else if i = 1 then decide (0 ≤ v ∧ v ≤ 9) else if i = 2 then decide (v < P ∨ v = 99) else if i = 3 then decide (0 ≤ v ∧ v ≤ 12) else decide (v < a)
def okL (L P b : Nat) (t : Tk) : Bool := decide (t.2.1 = 1 ∧ (t.2.2.1 = 108 ∧ L < 6 ∨ t.2.2.1 = 119 ∧ P < 10 ∨ t.2.2.1 = 122 ∧ b = 0))
def cnt (c : Nat) : Nat := if c = 119 then 5 else 1
def okR (L P b c a k : Nat) (t : Tk) : Bool := if k = 0 then okL L P b t else if k ≤ cnt c then (t.2.1 == 2 && okV c P a (k - 1) t.2.2.1) else t.2.1 == 3
def flt (bt : Nat → Nat) (n p L P b : Nat) : Nat → Option Nat
  | 0 => none
  | k + 1 => (flt bt n p L P b k).elim (bif okR L P b (vl bt n p 0) (vl bt n p 1) k (tkN bt n p k) then none else some (tkN bt n p k).1) some
theorem flt_n {bt : Nat → Nat} {n p L P b k : Nat} (h : flt bt n p L P b k = none) : flt bt n p L P b (k + 1) = bif okR L P b (vl bt n p 0) (vl bt n p 1) k (tkN bt n p k) then none else some (tkN bt n p k).1 := by
  show (flt bt n p L P b k).elim _ some = _
  rw [h]
  rfl
theorem flt_s {bt : Nat → Nat} {n p L P b k s : Nat} (h : flt bt n p L P b k = some s) : ∀ d, flt bt n p L P b (k + d) = some s := by
  intro d
  induction d with
  | zero => exact h
  | succ d ih => show (flt bt n p L P b (k + d)).elim _ some = _; rw [ih]; rfl
theorem flt_b {bt : Nat → Nat} {n p L P b k d : Nat} (h : flt bt n p L P b (k + d) = none) : flt bt n p L P b k = none := by
  cases e : flt bt n p L P b k with
  | none => rfl
  | some s => rw [flt_s e] at h; cases h
theorem flt_ok {bt : Nat → Nat} {n p L P b k : Nat} (h : flt bt n p L P b (k + 1) = none) : flt bt n p L P b k = none ∧ okR L P b (vl bt n p 0) (vl bt n p 1) k (tkN bt n p k) = true := by
  have h0 := flt_b h
  refine ⟨h0, ?_⟩
  rw [flt_n h0] at h
  cases e : okR L P b (vl bt n p 0) (vl bt n p 1) k (tkN bt n p k) with
  | true => rfl
  | false => rw [e] at h; cases h
theorem ps_le {bt : Nat → Nat} {n p : Nat} (hp : p ≤ n) : ∀ k, psN bt n p k ≤ n := by
  intro k
  induction k with
  | zero => exact hp
  | succ k ih => exact (tok_in bt ih).2.1
theorem flt_le {bt : Nat → Nat} {n p L P b : Nat} (hp : p ≤ n) : ∀ k s, flt bt n p L P b k = some s → s ≤ n := by
  intro k
  induction k with
  | zero => intro s h; cases h
  | succ k ih =>
    intro s h
    cases e : flt bt n p L P b k with
    | some s2 => rw [flt_s e 1] at h; cases h; exact ih _ e
    | none =>
      rw [flt_n e] at h
      cases e2 : okR L P b (vl bt n p 0) (vl bt n p 1) k (tkN bt n p k) with
      | true => rw [e2] at h; cases h
      | false => rw [e2] at h; cases h; exact (tok_in bt (ps_le hp k)).1
theorem flt_letter {bt : Nat → Nat} {n p L P b : Nat} (h : flt bt n p L P b 1 = none) : (tkN bt n p 0).2.1 = 1 ∧ (vl bt n p 0 = 108 ∧ L < 6 ∨ vl bt n p 0 = 119 ∧ P < 10 ∨ vl bt n p 0 = 122 ∧ b = 0) := by
  have h := (flt_ok h).2
  exact of_decide_eq_true h
theorem flt_num {bt : Nat → Nat} {n p L P b k : Nat} (hk : k < cnt (vl bt n p 0)) (h : flt bt n p L P b (k + 2) = none) : (tkN bt n p (k + 1)).2.1 = 2 ∧ okV (vl bt n p 0) P (vl bt n p 1) k (vl bt n p (k + 1)) = true := by
  have h := (flt_ok h).2
  unfold okR at h
  rw [if_neg (by omega), if_pos (by omega), Bool.and_eq_true] at h
  exact ⟨by simpa using h.1, h.2⟩
theorem win {v lo hi : Nat} (h1 : v < 2 ^ 31) (h2 : lo < 2 ^ 31) (h3 : hi < 2 ^ 31) (h : Hp) : X4_within (nI v) (nI lo) (nI hi) h = some (bi (decide (lo ≤ v ∧ v ≤ hi)), h) := by
  rw [X4_within_eq]
  by_cases e : lo ≤ v ∧ v ≤ hi
  · rw [if_pos ⟨(nI_leI h2 h1).mpr e.1, (nI_leI h1 h3).mpr e.2⟩, decide_eq_true e]; rfl
  · rw [if_neg (fun q => e ⟨(nI_leI h2 h1).mp q.1, (nI_leI h1 h3).mp q.2⟩), decide_eq_false e]; rfl
theorem winP {v P : Nat} (h1 : v < 2 ^ 31) (h3 : P < 2 ^ 31) (h : Hp) : X4_within (nI v) 0 (nI P - 1) h = some (bi (decide (v < P)), h) := by
  rw [X4_within_eq]
  by_cases e : v < P
  · rw [if_pos ((ix_iff h3).mpr (ix_nI e h3)), decide_eq_true e]; rfl
  · rw [if_neg (fun q => e (by have := ((ix_iff h3).mp q).2; rw [nI_toInt h1] at this; omega)), decide_eq_false e]; rfl
theorem nIne {a b : Nat} (ha : a < 2 ^ 31) (hb : b < 2 ^ 31) (h : a ≠ b) : ¬ nI a = nI b := fun z => h ((nI_eq ha hb).mp z)
theorem mayBe_X {g : Hp} {c P a i v : Nat} (hc : c < 256) (hv : v ≤ 99) (hP : P ≤ 10) (ha : a ≤ 99) (hi : i < 5) (e8 : g.1 1 8 = nI v) (e7 : g.1 7 3 = nI P) (e3 : i ≠ 0 → g.1 3 0 = nI a) : X2_mayBe (nI c) (nI i) g = some (bi (okV c P a i v), g) := by
  unfold X2_mayBe okV
  rw [e8]
  by_cases c1 : c = 108
  · subst c1
    rw [if_pos (show nI 108 = (108 : Int32) from rfl), if_pos rfl, show X4_within (nI v) 1 60 g = _ from win (v := v) (lo := 1) (hi := 60) (by omega) (by omega) (by omega) g, b2_some, zb_bi]
  · rw [if_neg (show ¬ nI c = (108 : Int32) from nIne (b := 108) (by omega) (by omega) c1), if_neg c1]
    by_cases c2 : c = 122
    · subst c2
      rw [if_pos (show nI 122 = (122 : Int32) from rfl), if_pos rfl, show X4_within (nI v) 1 5 g = _ from win (v := v) (lo := 1) (hi := 5) (by omega) (by omega) (by omega) g, b2_some, zb_bi]
    · rw [if_neg (show ¬ nI c = (122 : Int32) from nIne (b := 122) (by omega) (by omega) c2), if_neg c2]
      by_cases i0 : i = 0
      · subst i0
        rw [if_pos (show nI 0 = (0 : Int32) from rfl), if_pos rfl, show X4_within (nI v) 1 12 g = _ from win (v := v) (lo := 1) (hi := 12) (by omega) (by omega) (by omega) g, b2_some, zb_bi]
      · rw [if_neg (show ¬ nI i = (0 : Int32) from nIne (b := 0) (by omega) (by omega) i0), if_neg i0]
        by_cases i1 : i = 1
        · subst i1
          rw [if_pos (show nI 1 = (1 : Int32) from rfl), if_pos rfl, show X4_within (nI v) 0 9 g = _ from win (v := v) (lo := 0) (hi := 9) (by omega) (by omega) (by omega) g, b2_some, zb_bi]
        · rw [if_neg (show ¬ nI i = (1 : Int32) from nIne (b := 1) (by omega) (by omega) i1), if_neg i1]
          by_cases i2 : i = 2
          · subst i2
            rw [if_pos (show nI 2 = (2 : Int32) from rfl), if_pos rfl]
            unfold X3_hasPiece_7
            rw [e7, winP (by omega) (by omega), b2_some, zb_bi, b2_some, e8]
            by_cases l : v < P
            · rw [decide_eq_true l, decide_eq_true (Or.inl l : v < P ∨ v = 99), if_neg (by decide : ¬ bi true = 0)]; rfl
            · rw [decide_eq_false l, if_pos (show bi false = 0 from rfl)]
              by_cases l9 : v = 99
              · rw [decide_eq_true (Or.inr l9 : v < P ∨ v = 99), if_pos (show nI v = (99 : Int32) by rw [l9]; rfl)]; rfl
              · rw [decide_eq_false (fun z => z.elim l l9 : ¬ (v < P ∨ v = 99)), if_neg (show ¬ nI v = (99 : Int32) from nIne (b := 99) (by omega) (by omega) l9)]; rfl
          · rw [if_neg (show ¬ nI i = (2 : Int32) from nIne (b := 2) (by omega) (by omega) i2), if_neg i2]
            by_cases i3 : i = 3
            · subst i3
              rw [if_pos (show nI 3 = (3 : Int32) from rfl), if_pos rfl, show X4_within (nI v) 0 12 g = _ from win (v := v) (lo := 0) (hi := 12) (by omega) (by omega) (by omega) g, b2_some, zb_bi]
            · rw [if_neg (show ¬ nI i = (3 : Int32) from nIne (b := 3) (by omega) (by omega) i3), if_neg i3, e3 i0, winP (by omega) (by omega), b2_some, zb_bi]
/-! the class's row -/
abbrev JS (j : Nat) : Prop := 5 ≤ j ∧ j ≤ 8
def NX (h g : Hp) : Prop := (∀ o, o ≠ 1 → o ≠ 3 → g.1 o = h.1 o) ∧ (∀ j, ¬ JS j → g.1 1 j = h.1 1 j) ∧ g.2 = h.2
theorem NX.tr {a b c : Hp} (x : NX a b) (y : NX b c) : NX a c := ⟨fun o h1 h2 => (y.1 o h1 h2).trans (x.1 o h1 h2), fun j q => (y.2.1 j q).trans (x.2.1 j q), y.2.2.trans x.2.2⟩
theorem NX.ch {a b : Hp} (x : Ch 1 JS a b) : NX a b := ⟨fun o h1 _ => x.row h1, fun j q => x.pl q, x.2⟩
theorem NX.s3 {a b : Hp} (x : NX a b) (k : Nat) (v : Int32) : NX a (sI b 3 k v) := ⟨fun o h1 h2 => by rw [sI_row, if_neg h2]; exact x.1 o h1 h2, fun j q => x.2.1 j q, x.2.2⟩
theorem NX.fr {a b : Hp} (x : NX a b) : Fr a b := ⟨fun o j z => by
  by_cases e1 : o = 1
  · subst e1
    have : j = 2 := by
      have z : (!(j == 2)) = false := z
      simpa using z
    subst this
    exact x.2.1 2 (by decide)
  · by_cases e3 : o = 3
    · subst e3; cases z
    · rw [x.1 o e1 e3], x.2.2⟩
theorem NX.tx {a b : Hp} {n : Nat} {bt : Nat → Nat} (x : NX a b) (t : TX a n bt) : TX b n bt := ⟨t.1, by rw [x.2.1 2 (by decide)]; exact t.2.1, by rw [x.1 2 (by decide) (by decide)]; exact t.2.2.1, t.2.2.2⟩
section
variable {n : Nat} {bt : Nat → Nat} {p L P b : Nat}
theorem nums_X (hp : p ≤ n) (hP : P ≤ 10) (hl : flt bt n p L P b 1 = none) : ∀ d i, i + d = cnt (vl bt n p 0) → ∀ m, d < m → ∀ h : Hp, flt bt n p L P b (i + 1) = none → TX h n bt → h.1 1 6 = nI (psN bt n p (i + 1)) → h.1 7 3 = nI P → (∀ j, j < i → h.1 3 j = nI (vl bt n p (j + 1))) →
    ∃ g, NX h g ∧ (∀ s, flt bt n p L P b (cnt (vl bt n p 0) + 1) = some s → X2_readNumbers_l15 m (nI (vl bt n p 0)) (nI (cnt (vl bt n p 0))) (nI i) h = some (0, g) ∧ g.1 1 5 = nI s) ∧ (flt bt n p L P b (cnt (vl bt n p 0) + 1) = none → X2_readNumbers_l15 m (nI (vl bt n p 0)) (nI (cnt (vl bt n p 0))) (nI i) h = some (1, g) ∧ g.1 1 6 = nI (psN bt n p (cnt (vl bt n p 0) + 1)) ∧ ∀ j, j < cnt (vl bt n p 0) → g.1 3 j = nI (vl bt n p (j + 1))) := by
  have c5 : cnt (vl bt n p 0) ≤ 5 := by unfold cnt; split <;> omega
  have hc : vl bt n p 0 < 256 := by have := flt_letter hl; omega
  intro d
  induction d with
  | zero =>
    intro i hi m hm h hf t e6 e7 e3
    obtain ⟨m, rfl⟩ : ∃ z, m = z + 1 := ⟨m - 1, by omega⟩
    have hi : i = cnt (vl bt n p 0) := by omega
    rw [← hi, X2_readNumbers_l15_s]
    unfold X2_readNumbers_b15
    rw [if_pos (Int32.le_refl _)]
    exact ⟨h, ⟨fun _ _ _ => rfl, fun _ _ => rfl, rfl⟩, (fun s hs => by rw [hf] at hs; cases hs), fun _ => ⟨rfl, e6, e3⟩⟩
  | succ d ih =>
    intro i hi m hm h hf t e6 e7 e3
    obtain ⟨m, rfl⟩ : ∃ z, m = z + 1 := ⟨m - 1, by omega⟩
    obtain ⟨g, eg, xg, kg⟩ := step_X t (ps_le hp (i + 1)) e6
    obtain ⟨k1, k2, k3, k4⟩ : TKX g (tkN bt n p (i + 1)) := kg
    have tin : _ := tok_in bt (ps_le hp (i + 1) : psN bt n p (i + 1) ≤ n)
    have tin2 : (tkN bt n p (i + 1)).2.1 = 2 → vl bt n p (i + 1) ≤ 99 := tin.2.2.2.1
    have tin5 : (tkN bt n p (i + 1)).2.1 ≤ 4 := tin.2.2.2.2.2
    have x := NX.ch xg
    have hs := flt_n hf
    unfold okR at hs
    rw [if_neg (by omega), if_pos (by omega), Nat.add_sub_cancel] at hs
    have a99 : i ≠ 0 → vl bt n p 1 ≤ 99 := by
      intro i0
      have h2 : flt bt n p L P b (0 + 2) = none := flt_b (d := i - 1) (by rw [show 0 + 2 + (i - 1) = i + 1 by omega]; exact hf)
      have := (flt_num (k := 0) (by omega) h2).1
      exact (tok_in bt (ps_le hp 1 : psN bt n p 1 ≤ n)).2.2.2.1 this
    rw [X2_readNumbers_l15_s]
    unfold X2_readNumbers_b15
    rw [if_neg (nI_ge (by omega) (by omega)), eg, bind_some', k2]
    by_cases kd : (tkN bt n p (i + 1)).2.1 = 2
    · have v99 := tin2 kd
      rw [if_pos (show nI (tkN bt n p (i + 1)).2.1 = (2 : Int32) by rw [kd]; rfl)]
      have e8 : g.1 1 8 = nI (vl bt n p (i + 1)) := k3 (Or.inr kd)
      obtain ⟨a, ea, ha, hov⟩ : ∃ a, (i ≠ 0 → a = vl bt n p 1) ∧ a ≤ 99 ∧ okV (vl bt n p 0) P a i (vl bt n p (i + 1)) = okV (vl bt n p 0) P (vl bt n p 1) i (vl bt n p (i + 1)) := by
        by_cases i0 : i = 0
        · refine ⟨0, fun z => absurd i0 z, by omega, ?_⟩
          unfold okV
          rw [if_pos i0, if_pos i0]
        · exact ⟨vl bt n p 1, fun _ => rfl, a99 i0, rfl⟩
      rw [mayBe_X (a := a) hc v99 hP ha (by omega) e8 (by rw [x.1 7 (by decide) (by decide)]; exact e7) (fun i0 => by rw [xg.row (by decide), ea i0]; exact e3 0 (by omega)), b2_some, hov]
      rw [kd] at hs
      cases eo : okV (vl bt n p 0) P (vl bt n p 1) i (vl bt n p (i + 1)) with
      | true =>
        rw [show okV (vl bt n p 0) P (vl bt n p 1) i (tkN bt n p (i + 1)).2.2.1 = true from eo] at hs
        have hs : flt bt n p L P b (i + 1 + 1) = none := hs
        rw [if_neg (by decide : ¬ bi true = 0), e8, st_nI (by omega) (by omega), bind_some', i1, nI_add]
        have x2 := x.s3 i (nI (vl bt n p (i + 1)))
        have e6' : g.1 1 6 = nI (psN bt n p (i + 1 + 1)) := k4 (by rw [kd]; decide)
        obtain ⟨g2, y, r1, r2⟩ := ih (i + 1) (by omega) m (by omega) (sI g 3 i (nI (vl bt n p (i + 1)))) hs (x2.tx t) e6' (by rw [x2.1 7 (by decide) (by decide)]; exact e7) (fun j hj => by
          rw [sI_row, if_pos rfl]
          unfold upd
          by_cases ej : j = i
          · rw [if_pos ej, ej]
          · rw [if_neg ej, xg.row (by decide)]; exact e3 j (by omega))
        exact ⟨g2, x2.tr y, r1, r2⟩
      | false =>
        rw [show okV (vl bt n p 0) P (vl bt n p 1) i (tkN bt n p (i + 1)).2.2.1 = false from eo] at hs
        have hs : flt bt n p L P b (i + 1 + 1) = some (tkN bt n p (i + 1)).1 := hs
        have hs2 := flt_s hs d
        rw [show i + 1 + 1 + d = cnt (vl bt n p 0) + 1 by omega] at hs2
        rw [if_pos (show bi false = 0 from rfl), hs2]
        exact ⟨g, x, fun s z => ⟨rfl, by cases z; exact k1⟩, fun z => by cases z⟩
    · rw [show ((tkN bt n p (i + 1)).2.1 == 2) = false by simpa using kd] at hs
      have hs : flt bt n p L P b (i + 1 + 1) = some (tkN bt n p (i + 1)).1 := hs
      have hs2 := flt_s hs d
      rw [show i + 1 + 1 + d = cnt (vl bt n p 0) + 1 by omega] at hs2
      rw [if_neg (show ¬ nI (tkN bt n p (i + 1)).2.1 = (2 : Int32) from nIne (b := 2) (by omega) (by omega) kd), hs2]
      exact ⟨g, x, fun s z => ⟨rfl, by cases z; exact k1⟩, fun z => by cases z⟩
end
