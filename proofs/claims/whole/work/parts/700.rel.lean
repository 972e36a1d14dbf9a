/-! reading a heap behind a write -/
theorem sI_row (h : Hp) (o k : Nat) (v : Int32) (a : Nat) : (sI h o k v).1 a = if a = o then upd (h.1 o) k v else h.1 a := by
  by_cases e : a = o
  · subst e; rw [if_pos rfl, sI_o]
  · rw [if_neg e, (sI_n e).1]
theorem sI_two (h : Hp) (o k : Nat) (v : Int32) : (sI h o k v).2 = h.2 := rfl
theorem sL_one (h : Hp) (o k : Nat) (v : Int64) : (sL h o k v).1 = h.1 := rfl
theorem sL_at (h : Hp) (o k : Nat) (v : Int64) (a j : Nat) : (sL h o k v).2 a j = if a = o ∧ j = k then v else h.2 a j := by
  unfold sL
  by_cases e : a = o ∧ j = k
  · obtain ⟨rfl, rfl⟩ := e; simp
  · rw [if_neg e]
    have : (a == o && j == k) = false := by
      rw [Bool.and_eq_false_iff]
      by_cases e1 : a = o
      · right; simp only [beq_eq_false_iff_ne]; exact fun e2 => e ⟨e1, e2⟩
      · left; simpa using e1
    simp [this]
theorem sC_row (h : Hp) (a sp b dp n o : Nat) : (sC h a sp b dp n).1 o = if o = b then va_cpy (h.1 a) (h.1 b) sp dp n else h.1 o := by
  by_cases e : o = b
  · subst e; rw [if_pos rfl, sC_o]
  · rw [if_neg e, (sC_n e).1]
theorem sC_two (h : Hp) (a sp b dp n : Nat) : (sC h a sp b dp n).2 = h.2 := rfl
theorem hp_ext {h g : Hp} (h1 : ∀ o j, h.1 o j = g.1 o j) (h2 : h.2 = g.2) : h = g := Prod.ext (funext fun o => funext fun j => h1 o j) h2
theorem b2_some {α β γ : Type} (a : α) (b : β) (f : α → β → Option γ) : b2 (some (a, b)) f = f a b := rfl
theorem bind_some' {α γ : Type} (a : α) (f : α → Option γ) : (some a).bind f = f a := rfl
/-! whole numbers -/
theorem i0 : (0 : Int32) = nI 0 := rfl
theorem i1 : (1 : Int32) = nI 1 := rfl
theorem i2 : (2 : Int32) = nI 2 := rfl
theorem i3 : (3 : Int32) = nI 3 := rfl
theorem i4 : (4 : Int32) = nI 4 := rfl
theorem i5 : (5 : Int32) = nI 5 := rfl
theorem i6 : (6 : Int32) = nI 6 := rfl
theorem i9 : (9 : Int32) = nI 9 := rfl
theorem i10 : (10 : Int32) = nI 10 := rfl
theorem i11 : (11 : Int32) = nI 11 := rfl
theorem i12 : (12 : Int32) = nI 12 := rfl
theorem i50 : (50 : Int32) = nI 50 := rfl
theorem i55 : (55 : Int32) = nI 55 := rfl
theorem i60 : (60 : Int32) = nI 60 := rfl
theorem i66 : (66 : Int32) = nI 66 := rfl
theorem i99 : (99 : Int32) = nI 99 := rfl
theorem ld_nI {h : Hp} {a n j : Nat} (hj : j < n) (hn : n < 2 ^ 31) : ld h a n (nI j) = some (h.1 a j) := by
  unfold ld
  rw [if_neg (nI_in hj hn), nI_clamp (by omega)]
theorem st_nI {h : Hp} {a n j : Nat} {v : Int32} (hj : j < n) (hn : n < 2 ^ 31) : st h a n (nI j) v = some (sI h a j v) := by
  unfold st
  rw [if_neg (nI_in hj hn), nI_clamp (by omega)]
theorem cpc_nI {h : Hp} {a na b nb sp dp n : Nat} (h1 : sp + n ≤ na) (h2 : dp + n ≤ nb) (ha : na < 2 ^ 31) (hb : nb < 2 ^ 31) : cpc h a na (nI sp) b nb (nI dp) (nI n) = some (sC h a sp b dp n) := by
  unfold cpc
  rw [nI_clamp (by omega), nI_clamp (by omega), nI_clamp (by omega), if_neg]
  rintro (q | q | q | q | q)
  · exact nI_pos (by omega) q
  · exact nI_pos (by omega) q
  · exact nI_pos (by omega) q
  · omega
  · omega
abbrev isIx (x : Int32) (n : Nat) : Prop := 0 ≤ x.toInt ∧ x.toInt < (n : Int)
theorem ix_nI {j n : Nat} (h : j < n) (hn : n < 2 ^ 31) : isIx (nI j) n := by
  unfold isIx; rw [nI_toInt (by omega)]; omega
theorem ix_of {x : Int32} {n : Nat} (h : isIx x n) (hn : n < 2 ^ 31) : ∃ j : Nat, j < n ∧ x = nI j := vp_in_of (vp_in_iff.mpr h) hn
theorem toInt_m1 : (nI 0 - 1 : Int32).toInt = -1 := by decide
theorem nIm1_toInt {n : Nat} (h : n < 2 ^ 31) : (nI n - 1).toInt = (n : Int) - 1 := by
  cases n with
  | zero => decide
  | succ n => rw [nI_pred, nI_toInt (by omega)]; omega
theorem ix_iff {x : Int32} {n : Nat} (h : n < 2 ^ 31) : ((0 : Int32) ≤ x ∧ x ≤ nI n - 1) ↔ isIx x n := by
  rw [Int32.le_iff_toInt_le, Int32.le_iff_toInt_le, nIm1_toInt h, Int32.toInt_zero]
  unfold isIx
  omega
theorem X4_within_eq (x a b : Int32) (h : Hp) : X4_within x a b h = some (if a ≤ x ∧ x ≤ b then 1 else 0, h) := by
  unfold X4_within
  by_cases c1 : x < a
  · rw [if_pos c1, if_neg (fun q => Int32.not_lt.mpr q.1 c1)]
  · by_cases c2 : b < x
    · rw [if_neg c1, if_pos c2, if_neg (fun q => Int32.not_lt.mpr q.2 c2)]
    · rw [if_neg c1, if_neg c2, if_pos ⟨Int32.not_lt.mp c1, Int32.not_lt.mp c2⟩]
theorem X5_in_eq (x a b : Int32) (h : Hp) : X5_in x a b h = some (if a ≤ x ∧ x ≤ b then 1 else 0, h) := X4_within_eq x a b h
theorem zb_if {c : Prop} [Decidable c] (h : Hp) : zb (if c then 1 else 0) h = some (if c then 1 else 0, h) := by
  unfold zb
  by_cases q : c <;> simp [q]
theorem ite10 {c : Prop} {_ : Decidable c} : ((if c then (1 : Int32) else 0) = 0) ↔ ¬ c := by
  by_cases q : c
  · simp only [q, if_true, not_true]; decide
  · simp only [q, if_false, not_false_iff]
/-! the relation -/
/-- the card as the class has it -/
def CdX (h : Hp) (L P Z : Nat) (wd : Nat → Nat) (q : Nat → Nat → Nat) : Prop :=
  h.1 4 2 = nI L ∧ h.1 4 3 = nI P ∧ h.1 4 4 = nI Z ∧ (∀ l, l < L → h.1 5 l = nI (wd l)) ∧ ∀ w, w < P → ∀ j, j < 5 → h.1 6 (5 * w + j) = nI (q w j)
/-- the card as the reference has it -/
def CdY (h : Hp) (L P Z : Nat) (wd : Nat → Nat) (q : Nat → Nat → Nat) : Prop :=
  h.1 22 0 = nI L ∧ h.1 24 0 = nI P ∧ h.1 26 0 = nI Z ∧ (∀ l, l < L → h.1 23 l = nI (wd l)) ∧ ∀ w, w < P → ∀ j, j < 5 → h.1 25 (5 * w + j) = nI (q w j)
/-- what a card may be -/
def Cok (L P Z : Nat) (wd : Nat → Nat) (q : Nat → Nat → Nat) : Prop :=
  L ≤ 6 ∧ P ≤ 10 ∧ 1 ≤ Z ∧ Z ≤ 5 ∧ (∀ l, l < L → 1 ≤ wd l ∧ wd l ≤ 60) ∧ ∀ w, w < P → 1 ≤ q w 0 ∧ q w 0 ≤ 12 ∧ q w 1 ≤ 9 ∧ (q w 2 < w ∨ q w 2 = 99) ∧ q w 3 ≤ 12 ∧ q w 4 < q w 0
def TxR (h : Hp) : Prop := ∃ n, n ≤ 200 ∧ h.1 1 2 = nI n ∧ h.1 20 2 = nI n ∧ ∀ i, i < n → ∃ c, c < 256 ∧ h.1 2 i = nI c ∧ h.1 21 i = (nI c).toInt8.toInt32
/-- a state of writing that may be -/
def V5 (L P : Nat) (f : Nat → Int32) : Prop := (∃ n, n ≤ P ∧ f 0 = nI n) ∧ (∃ l, (l < L ∨ (L = 0 ∧ l = 0)) ∧ f 1 = nI l) ∧ (∃ z, 1 ≤ z ∧ z ≤ 5 ∧ f 3 = nI z) ∧ ∃ b, b < 1024 ∧ f 4 = nI b
/-- a hand (cell o, its past in cell a) and the reference's stand from place f on -/
def HdR (h : Hp) (L P o a f : Nat) : Prop :=
  (∀ j, j < 5 → h.1 o (j + 1) = h.1 27 (f + j)) ∧ V5 L P (fun j => h.1 27 (f + j)) ∧ ∃ k, k ≤ 12 ∧ h.1 o 7 = nI k ∧ h.1 27 (f + 5) = nI k ∧
  ∀ i, i < k → (∀ j, j < 5 → h.1 a (5 * i + j) = h.1 27 (f + 6 + 5 * i + j)) ∧ V5 L P (fun j => h.1 27 (f + 6 + 5 * i + j))
def ImR (h : Hp) (L P : Nat) : Prop := ∃ b0 b1 : Nat, b0 ≤ 1 ∧ b1 ≤ 1 ∧ h.1 0 7 = nI (b0 + 2 * b1) ∧ h.1 28 0 = nI b0 ∧ h.1 28 1 = nI b1 ∧ (b0 = 1 → HdR h L P 14 15 66) ∧ (b1 = 1 → HdR h L P 16 17 132)
def SnR (h : Hp) (L P : Nat) : Prop := ∃ n, n ≤ 6 ∧ h.1 0 10 = nI n ∧ h.1 20 26 = nI n ∧ ∀ i, i < n → ∃ w l, w < P ∧ l < L ∧ h.1 18 i = nI w ∧ h.1 32 i = nI w ∧ h.1 19 i = nI l ∧ h.1 33 i = nI l
def TrR (h : Hp) : Prop := h.2 0 11 = h.2 20 0
def Rl (h : Hp) (L P Z : Nat) (wd : Nat → Nat) (q : Nat → Nat → Nat) : Prop :=
  Cok L P Z wd q ∧ CdX h L P Z wd q ∧ CdY h L P Z wd q ∧ TxR h ∧ HdR h L P 12 13 0 ∧ ImR h L P ∧ SnR h L P ∧ TrR h
def Rel (h : Hp) : Prop := ∃ (L P Z : Nat) (wd : Nat → Nat) (q : Nat → Nat → Nat), Rl h L P Z wd q
/-- two calls, the class's and the reference's one behind the other, answer alike and keep the relation -/
def OK {α : Type} (f g : Hp → Option (α × Hp)) : Prop := ∀ h, Rel h → ∃ r h1 h2, f h = some (r, h1) ∧ g h1 = some (r, h2) ∧ Rel h2
/-! what each part of it reads -/
theorem CdX.of {h g : Hp} {L P Z : Nat} {wd : Nat → Nat} {q : Nat → Nat → Nat} (c : CdX h L P Z wd q) (e4 : ∀ j, j = 2 ∨ j = 3 ∨ j = 4 → g.1 4 j = h.1 4 j) (e5 : g.1 5 = h.1 5) (e6 : g.1 6 = h.1 6) : CdX g L P Z wd q := by
  obtain ⟨a, b, d, e, f⟩ := c
  exact ⟨by rw [e4 2 (by omega)]; exact a, by rw [e4 3 (by omega)]; exact b, by rw [e4 4 (by omega)]; exact d, by rw [e5]; exact e, by rw [e6]; exact f⟩
theorem CdY.of {h g : Hp} {L P Z : Nat} {wd : Nat → Nat} {q : Nat → Nat → Nat} (c : CdY h L P Z wd q) (hL : L ≤ 6) (hP : P ≤ 10) (e1 : g.1 22 0 = h.1 22 0) (e2 : g.1 24 0 = h.1 24 0) (e3 : g.1 26 0 = h.1 26 0) (e4 : ∀ j, j < 6 → g.1 23 j = h.1 23 j) (e5 : ∀ j, j < 50 → g.1 25 j = h.1 25 j) : CdY g L P Z wd q := by
  obtain ⟨a, b, d, e, f⟩ := c
  exact ⟨by rw [e1]; exact a, by rw [e2]; exact b, by rw [e3]; exact d, fun l hl => by rw [e4 l (by omega)]; exact e l hl, fun w hw j hj => by rw [e5 _ (by omega)]; exact f w hw j hj⟩
theorem TxR.of {h g : Hp} (c : TxR h) (e1 : g.1 1 2 = h.1 1 2) (e2 : g.1 20 2 = h.1 20 2) (e3 : g.1 2 = h.1 2) (e4 : g.1 21 = h.1 21) : TxR g := by
  obtain ⟨n, a, b, d, e⟩ := c
  exact ⟨n, a, by rw [e1]; exact b, by rw [e2]; exact d, by rw [e3, e4]; exact e⟩
theorem V5.of {L P : Nat} {f g : Nat → Int32} (c : V5 L P f) (e : ∀ j, j < 5 → g j = f j) : V5 L P g := by
  obtain ⟨⟨n, a1, a2⟩, ⟨l, b1, b2⟩, ⟨z, c1, c2, c3⟩, b, d1, d2⟩ := c
  exact ⟨⟨n, a1, by rw [e 0 (by omega)]; exact a2⟩, ⟨l, b1, by rw [e 1 (by omega)]; exact b2⟩, ⟨z, c1, c2, by rw [e 3 (by omega)]; exact c3⟩, b, d1, by rw [e 4 (by omega)]; exact d2⟩
theorem HdR.of {h g : Hp} {L P o a f : Nat} (c : HdR h L P o a f) (e1 : ∀ j, j < 8 → 0 < j → j ≠ 6 → g.1 o j = h.1 o j) (e2 : g.1 a = h.1 a) (e3 : ∀ j, f ≤ j → j < f + 66 → g.1 27 j = h.1 27 j) : HdR g L P o a f := by
  obtain ⟨c1, c2, k, hk, c3, c4, c5⟩ := c
  refine ⟨fun j hj => by rw [e1 (j + 1) (by omega) (by omega) (by omega), e3 _ (by omega) (by omega)]; exact c1 j hj, c2.of (fun j hj => e3 _ (by omega) (by omega)), k, hk, by rw [e1 7 (by omega) (by omega) (by omega)]; exact c3, by rw [e3 _ (by omega) (by omega)]; exact c4, fun i hi => ?_⟩
  obtain ⟨d1, d2⟩ := c5 i hi
  exact ⟨fun j hj => by rw [e2, e3 _ (by omega) (by omega)]; exact d1 j hj, d2.of (fun j hj => e3 _ (by omega) (by omega))⟩
theorem ImR.of {h g : Hp} {L P : Nat} (c : ImR h L P) (e0 : g.1 0 7 = h.1 0 7) (e1 : g.1 28 = h.1 28) (e2 : g.1 14 = h.1 14) (e3 : g.1 15 = h.1 15) (e4 : g.1 16 = h.1 16) (e5 : g.1 17 = h.1 17) (e6 : ∀ j, 66 ≤ j → j < 198 → g.1 27 j = h.1 27 j) : ImR g L P := by
  obtain ⟨b0, b1, a1, a2, a3, a4, a5, a6, a7⟩ := c
  exact ⟨b0, b1, a1, a2, by rw [e0]; exact a3, by rw [e1]; exact a4, by rw [e1]; exact a5, fun q => (a6 q).of (fun j _ _ _ => by rw [e2]) e3 (fun j q1 q2 => e6 j (by omega) (by omega)), fun q => (a7 q).of (fun j _ _ _ => by rw [e4]) e5 (fun j q1 q2 => e6 j (by omega) (by omega))⟩
theorem SnR.of {h g : Hp} {L P : Nat} (c : SnR h L P) (e0 : g.1 0 10 = h.1 0 10) (e1 : g.1 20 26 = h.1 20 26) (e2 : g.1 18 = h.1 18) (e3 : g.1 19 = h.1 19) (e4 : g.1 32 = h.1 32) (e5 : g.1 33 = h.1 33) : SnR g L P := by
  obtain ⟨n, a, b, d, e⟩ := c
  exact ⟨n, a, by rw [e0]; exact b, by rw [e1]; exact d, by rw [e2, e3, e4, e5]; exact e⟩
/-- the places that no later call reads -/
def sc (o j : Nat) : Bool := match o with
  | 1 => !(j == 2)
  | 3 => true
  | 7 => true
  | 8 => true
  | 9 => true
  | 10 => true
  | 11 => true
  | 20 => (8 ≤ j && j ≤ 13) || (17 ≤ j && j ≤ 22)
  | 22 => j == 1
  | 24 => j == 1
  | 26 => j == 1
  | 23 => 6 ≤ j
  | 25 => 50 ≤ j
  | 29 => true
  | 30 => true
  | 31 => true
  | _ => false
def Fr (h g : Hp) : Prop := (∀ o j, sc o j = false → g.1 o j = h.1 o j) ∧ g.2 = h.2
theorem Fr.rf (h : Hp) : Fr h h := ⟨fun _ _ _ => rfl, rfl⟩
theorem Fr.tr {a b c : Hp} (h1 : Fr a b) (h2 : Fr b c) : Fr a c := ⟨fun o j q => (h2.1 o j q).trans (h1.1 o j q), h2.2.trans h1.2⟩
theorem Fr.s {a b : Hp} (h1 : Fr a b) (o k : Nat) (v : Int32) (q : sc o k = true) : Fr a (sI b o k v) := by
  refine ⟨fun o2 j z => ?_, h1.2⟩
  rw [sI_row]
  by_cases e : o2 = o
  · subst e
    rw [if_pos rfl]
    unfold upd
    by_cases e2 : j = k
    · subst e2; rw [q] at z; cases z
    · rw [if_neg e2]; exact h1.1 _ _ z
  · rw [if_neg e]; exact h1.1 _ _ z
theorem Fr.row {h g : Hp} (f : Fr h g) (o : Nat) (q : ∀ j, sc o j = false) : g.1 o = h.1 o := funext fun j => f.1 o j (q j)
theorem Rl.fr {h g : Hp} {L P Z : Nat} {wd : Nat → Nat} {q : Nat → Nat → Nat} (r : Rl h L P Z wd q) (f : Fr h g) : Rl g L P Z wd q := by
  obtain ⟨c, x, y, t, d, i, n, z⟩ := r
  have R : ∀ o, (∀ j, sc o j = false) → g.1 o = h.1 o := f.row
  refine ⟨c, x.of (fun j hj => f.1 4 j rfl) (R 5 fun _ => rfl) (R 6 fun _ => rfl), y.of c.1 c.2.1 (f.1 22 0 rfl) (f.1 24 0 rfl) (f.1 26 0 rfl) (fun j hj => f.1 23 j (by simp [sc]; omega)) (fun j hj => f.1 25 j (by simp [sc]; omega)), t.of (f.1 1 2 rfl) (f.1 20 2 rfl) (R 2 fun _ => rfl) (R 21 fun _ => rfl), d.of (fun j _ _ _ => f.1 12 j rfl) (R 13 fun _ => rfl) (fun j _ _ => f.1 27 j rfl), i.of (f.1 0 7 rfl) (R 28 fun _ => rfl) (R 14 fun _ => rfl) (R 15 fun _ => rfl) (R 16 fun _ => rfl) (R 17 fun _ => rfl) (fun j _ _ => f.1 27 j rfl), n.of (f.1 0 10 rfl) (f.1 20 26 rfl) (R 18 fun _ => rfl) (R 19 fun _ => rfl) (R 32 fun _ => rfl) (R 33 fun _ => rfl), ?_⟩
  unfold TrR
  rw [f.2]
  exact z
theorem Rel.fr {h g : Hp} (r : Rel h) (f : Fr h g) : Rel g := by
  obtain ⟨L, P, Z, wd, q, r⟩ := r
  exact ⟨L, P, Z, wd, q, r.fr f⟩
