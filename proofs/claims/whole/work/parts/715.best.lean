/-! kept, telegram -/
/-- the first m PIECES of a set have what they need in it -/
def hn (q : Nat → Nat → Nat) (b : Nat) : Nat → Bool
  | 0 => true
  | w + 1 => hn q b w && (!b.testBit w || (q w 2 == 99 || b.testBit (q w 2)))
theorem hn_false {q : Nat → Nat → Nat} {b i : Nat} (h : hn q b i = false) : ∀ d, hn q b (i + d) = false := by
  intro d
  induction d with
  | zero => exact h
  | succ d ih =>
    show (hn q b (i + d) && _) = false
    rw [ih, Bool.false_and]
section
variable {L P Z : Nat} {wd : Nat → Nat} {q : Nat → Nat → Nat}
theorem hn_X (k : Cok L P Z wd q) {h : Hp} (c : CdX h L P Z wd q) {b : Nat} (hb : b < 2 ^ 31) : ∀ d w, w + d = P → hn q b w = true → ∀ n, d < n → X3_hasItsNeeds_l2 n (nI b) (nI w) h = some (bi (hn q b P), h) := by
  have h10 := k.2.1
  intro d
  induction d with
  | zero =>
    intro w hw e n hn2
    obtain ⟨n, rfl⟩ : ∃ z, n = z + 1 := ⟨n - 1, by omega⟩
    have : w = P := by omega
    subst this
    rw [X3_hasItsNeeds_l2_s]
    unfold X3_hasItsNeeds_b2
    rw [c.2.1, if_pos (Int32.le_refl _), e]
    rfl
  | succ d ih =>
    intro w hw e n hn2
    obtain ⟨n, rfl⟩ : ∃ z, n = z + 1 := ⟨n - 1, by omega⟩
    have hwP : w < P := by omega
    have hs : hn q b (w + 1) = (!b.testBit w || (q w 2 == 99 || b.testBit (q w 2))) := by
      show (hn q b w && _) = _
      rw [e, Bool.true_and]
    rw [X3_hasItsNeeds_l2_s]
    unfold X3_hasItsNeeds_b2 X3_hasItsNeeds_b42
    rw [c.2.1, if_neg (nI_ge hwP (by omega)), bit_nI h hb (by omega), b2_some]
    cases et : b.testBit w with
    | false =>
      rw [(tb_iff0 b w).mpr et, if_neg (by decide), i1, nI_add]
      exact ih (w + 1) (by omega) (by rw [hs, et]; rfl) n (by omega)
    | true =>
      rw [(tb_iff b w).mpr et, if_pos (by decide), needsAny_eq c k hwP, b2_some]
      by_cases e99 : q w 2 = 99
      · rw [if_pos e99, if_pos rfl, i1, nI_add]
        exact ih (w + 1) (by omega) (by rw [hs, et]; simp [e99]) n (by omega)
      · have hlt : q w 2 < w := by rcases k.nd w hwP with z | z; exact z; exact absurd z e99
        rw [if_neg e99, if_neg (by decide), show X3_of (nI w) 2 h = some (nI (q w 2), h) from of_eq (j := 2) c k hwP (by omega), b2_some, bit_nI h hb (by omega), b2_some]
        cases ed : b.testBit (q w 2) with
        | true =>
          rw [(tb_iff b _).mpr ed, if_neg (by decide), i1, nI_add]
          exact ih (w + 1) (by omega) (by rw [hs, et, ed]; simp) n (by omega)
        | false =>
          rw [(tb_iff0 b _).mpr ed, if_pos (by decide)]
          have : hn q b (w + 1) = false := by rw [hs, et, ed]; simp [e99]
          have := hn_false this d
          rw [show w + 1 + d = P by omega] at this
          rw [this]
          rfl
theorem hasNeeds_X (k : Cok L P Z wd q) {h : Hp} (c : CdX h L P Z wd q) {b : Nat} (hb : b < 2 ^ 31) : X3_hasItsNeeds (nI b) h = some (bi (hn q b P), h) := hn_X k c hb P 0 (by omega) rfl fu (fu_pos (by have := k.2.1; omega))
theorem hn_Y (k : Cok L P Z wd q) {h : Hp} (c : CdY h L P Z wd q) {b : Nat} (hb : b < 2 ^ 31) : ∀ d w, w + d = P → ∀ n, d < n → X5_hasNeeds_l4 n (nI b) (bi (hn q b w)) (nI w) h = some (bi (hn q b P), h) := by
  have h10 := k.2.1
  intro d
  induction d with
  | zero =>
    intro w hw n hn2
    obtain ⟨n, rfl⟩ : ∃ z, n = z + 1 := ⟨n - 1, by omega⟩
    have : w = P := by omega
    subst this
    rw [X5_hasNeeds_l4_s]
    unfold X5_hasNeeds_b4
    rw [c.2.1, if_pos (Int32.le_refl _), zb_bi]
  | succ d ih =>
    intro w hw n hn2
    obtain ⟨n, rfl⟩ : ∃ z, n = z + 1 := ⟨n - 1, by omega⟩
    have hwP : w < P := by omega
    have ih2 := ih (w + 1) (by omega) n (by omega)
    have hs : hn q b (w + 1) = (hn q b w && (!b.testBit w || (q w 2 == 99 || b.testBit (q w 2)))) := rfl
    have hq : q w 2 ≤ 99 := by rcases k.nd w hwP with z | z; have : q w 2 < w := z; omega; exact Nat.le_of_eq z
    have yes : hn q b (w + 1) = true → X5_hasNeeds_b51 (X5_hasNeeds_l4 n) (nI b) (nI w) h = some (bi (hn q b P), h) := by
      intro e
      unfold X5_hasNeeds_b51 X5_hasNeeds_b56
      rw [e] at ih2
      rw [i1, nI_add]
      exact ih2
    have no : hn q b (w + 1) = false → X5_hasNeeds_b55 (X5_hasNeeds_l4 n) (nI b) (nI w) h = some (bi (hn q b P), h) := by
      intro e
      unfold X5_hasNeeds_b55 X5_hasNeeds_b56
      rw [e] at ih2
      rw [i1, nI_add]
      exact ih2
    rw [X5_hasNeeds_l4_s]
    unfold X5_hasNeeds_b4
    rw [c.2.1, if_neg (nI_ge hwP (by omega)), show X5_of (nI w) 2 h = some (nI (q w 2), h) from of5_eq (j := 2) c k hwP (by omega), b2_some]
    cases e0 : hn q b w with
    | false =>
      rw [e0] at hs
      rw [if_pos (show bi false = 0 from rfl)]
      exact no (by rw [hs]; rfl)
    | true =>
      rw [e0, Bool.true_and] at hs
      rw [if_neg (by decide), nI_bit hb (by omega)]
      cases et : b.testBit w with
      | false =>
        rw [(tb_iff0 b w).mpr et, if_pos (by decide)]
        exact yes (by rw [hs, et]; rfl)
      | true =>
        rw [(tb_iff b w).mpr et, if_neg (by decide)]
        by_cases e99 : q w 2 = 99
        · rw [if_pos (by rw [e99]; rfl)]
          exact yes (by rw [hs, et]; simp [e99])
        · have hlt : q w 2 < w := by rcases k.nd w hwP with z | z; exact z; exact absurd z e99
          rw [if_neg (show ¬ nI (q w 2) = (99 : Int32) from fun z => e99 ((nI_eq (b := 99) (by omega) (by omega)).mp z)), nI_bit hb (by omega)]
          cases ed : b.testBit (q w 2) with
          | true =>
            rw [(tb_iff b _).mpr ed, if_pos (by decide)]
            exact yes (by rw [hs, et, ed]; simp)
          | false =>
            rw [(tb_iff0 b _).mpr ed, if_neg (by decide)]
            exact no (by rw [hs, et, ed]; simp [e99])
theorem hasNeeds_Y (k : Cok L P Z wd q) {h : Hp} (c : CdY h L P Z wd q) {b : Nat} (hb : b < 2 ^ 31) : X5_hasNeeds (nI b) h = some (bi (hn q b P), h) := hn_Y k c hb P 0 (by omega) fu (fu_pos (by have := k.2.1; omega))
theorem sm_le {b j m : Nat} (hj : ∀ w, w < m → q w j ≤ 12) : sm q b j m ≤ 12 * m := by
  induction m with
  | zero => exact Nat.le_refl 0
  | succ m ih =>
    have := ih (fun w hw => hj w (by omega))
    have h2 := hj m (by omega)
    show sm q b j m + b / 2 ^ m % 2 * q m j ≤ 12 * (m + 1)
    have m2 : b / 2 ^ m % 2 = 0 ∨ b / 2 ^ m % 2 = 1 := by omega
    rcases m2 with e | e <;> rw [e] <;> omega
theorem sm_in (k : Cok L P Z wd q) (b : Nat) : sm q b 0 P ≤ 120 ∧ sm q b 1 P ≤ 120 := by
  have h10 := k.2.1
  have h1 := sm_le (q := q) (b := b) (j := 0) (m := P) (fun w hw => by have := k.2.2.2.2.2 w hw; omega)
  have h2 := sm_le (q := q) (b := b) (j := 1) (m := P) (fun w hw => by have := k.2.2.2.2.2 w hw; omega)
  omega
theorem sm_0 {j m : Nat} : sm q 0 j m = 0 := by
  induction m with
  | zero => rfl
  | succ m ih =>
    show sm q 0 j m + 0 / 2 ^ m % 2 * q m j = 0
    rw [ih, Nat.zero_div, Nat.zero_mod, Nat.zero_mul]
/-- whether a set goes on; no size: there are no LINES -/
def fit (L P : Nat) (wd : Nat → Nat) (q : Nat → Nat → Nat) (o : Option Nat) (b : Nat) : Bool := match o with
  | none => true
  | some s => (stt L wd (fun _ => s) (lnX q 0) b P).isSome
def gud (L P : Nat) (wd : Nat → Nat) (q : Nat → Nat → Nat) (o : Option Nat) (most b : Nat) : Bool := decide (pop b 10 ≤ most) && (hn q b P && fit L P wd q o b)
def btr (P : Nat) (q : Nat → Nat → Nat) (best b : Nat) : Bool := decide (sm q best 1 P < sm q b 1 P) || (decide (sm q b 1 P = sm q best 1 P) && decide (sm q b 0 P < sm q best 0 P))
def bst (L P : Nat) (wd : Nat → Nat) (q : Nat → Nat → Nat) (o : Option Nat) (most : Nat) : Nat → Nat → Nat → Nat
  | 0, _, best => best
  | d + 1, b, best => bst L P wd q o most d (b + 1) (bif btr P q best b && gud L P wd q o most b then b else best)
def szX (o : Option Nat) : Nat := match o with
  | none => 0
  | some s => s
def szY (o : Option Nat) : Int32 := match o with
  | none => -9
  | some s => nI s
theorem best_X (k : Cok L P Z wd q) {o : Option Nat} (ho : ∀ s, o = some s → 1 ≤ s ∧ s ≤ 5) {most : Nat} (hm : most ≤ 10) : ∀ d b, b + d = 2 ^ P → ∀ n, d < n → ∀ (best : Nat) (h : Hp), CdX h L P Z wd q → ∃ g, X4_bestSet_l11 n (nI (szX o)) (nI most) (nI best) (nI (sm q best 1 P)) (nI (sm q best 0 P)) (nI b) h = some (nI (bst L P wd q o most d b best), g) ∧ FX h g := by
  have h10 := k.2.1
  have p10 := p2_10 h10
  have pp := Nat.one_le_two_pow (n := P)
  intro d
  induction d with
  | zero =>
    intro b hb n hn2 best h cx
    obtain ⟨n, rfl⟩ : ∃ z, n = z + 1 := ⟨n - 1, by omega⟩
    rw [X4_bestSet_l11_s]
    unfold X4_bestSet_b11
    rw [all_X cx k, b2_some, if_pos (nI_lt (by omega) (by omega))]
    exact ⟨h, rfl, FX.rf h⟩
  | succ d ih =>
    intro b hb n hn2 best h cx
    obtain ⟨n, rfl⟩ : ∃ z, n = z + 1 := ⟨n - 1, by omega⟩
    have b10 : b < 1024 := by omega
    have sb := sm_in k b
    have sbe := sm_in k best
    have pl := pop_le b 10
    have hs : bst L P wd q o most (d + 1) b best = bst L P wd q o most d (b + 1) (bif btr P q best b && gud L P wd q o most b then b else best) := rfl
    have no : ∀ g : Hp, FX h g → (btr P q best b && gud L P wd q o most b) = false → ∃ g2, X4_bestSet_b133 (X4_bestSet_l11 n) (nI (szX o)) (nI most) (nI best) (nI (sm q best 1 P)) (nI (sm q best 0 P)) (nI b) g = some (nI (bst L P wd q o most (d + 1) b best), g2) ∧ FX h g2 := by
      intro g x e
      rw [e] at hs
      rw [hs]
      unfold X4_bestSet_b133
      rw [i1, nI_add]
      obtain ⟨g2, e2, x2⟩ := ih (b + 1) (by omega) n (by omega) best g (x.cd cx)
      exact ⟨g2, e2, x.tr x2⟩
    have yes : ∀ g : Hp, FX h g → (btr P q best b && gud L P wd q o most b) = true → ∃ g2, X4_bestSet_b122 (X4_bestSet_l11 n) (nI (szX o)) (nI most) (nI b) (nI (sm q b 1 P)) (nI (sm q b 0 P)) g = some (nI (bst L P wd q o most (d + 1) b best), g2) ∧ FX h g2 := by
      intro g x e
      rw [e] at hs
      rw [hs]
      unfold X4_bestSet_b122 X4_bestSet_b133
      rw [i1, nI_add]
      obtain ⟨g2, e2, x2⟩ := ih (b + 1) (by omega) n (by omega) b g (x.cd cx)
      exact ⟨g2, e2, x.tr x2⟩
    rw [X4_bestSet_l11_s]
    unfold X4_bestSet_b11
    rw [all_X cx k, b2_some, if_neg (nI_nlt (by omega) (by omega)), bitCount_eq b10, b2_some]
    by_cases c1 : pop b 10 ≤ most
    · rw [if_neg (nI_nlt c1 (by omega)), hasNeeds_X k cx (by omega), b2_some]
      cases eh : hn q b P with
      | false =>
        rw [if_pos (show bi false = 0 from rfl)]
        exact no h (FX.rf h) (by unfold gud; rw [eh]; simp)
      | true =>
        rw [if_neg (by decide), show X3_sum (nI b) 1 h = some (nI (sm q b 1 P), h) from sum4_eq (j := 1) cx k (by omega) (by omega), b2_some, show X3_sum (nI b) 0 h = some (nI (sm q b 0 P), h) from sum4_eq (j := 0) cx k (by omega) (by omega), b2_some]
        have eg : gud L P wd q o most b = fit L P wd q o b := by unfold gud; rw [eh]; simp [c1]
        have better : btr P q best b = true → ∃ g2, X4_bestSet_b92 (X4_bestSet_l11 n) (nI (szX o)) (nI most) (nI best) (nI (sm q best 1 P)) (nI (sm q best 0 P)) (nI b) (nI (sm q b 1 P)) (nI (sm q b 0 P)) h = some (nI (bst L P wd q o most (d + 1) b best), g2) ∧ FX h g2 := by
          intro e
          unfold X4_bestSet_b92 X4_bestSet_b97
          rw [if_neg (by decide)]
          cases o with
          | none =>
            rw [if_pos (show nI (szX none) = 0 from rfl)]
            exact yes h (FX.rf h) (by rw [e, eg]; rfl)
          | some s =>
            obtain ⟨s1, s5⟩ := ho s rfl
            rw [if_neg (show ¬ nI (szX (some s)) = (0 : Int32) from nI_ne0 s1 (show s < 2 ^ 31 by omega))]
            obtain ⟨g, e3, x3, -⟩ := goesOn_X k cx (s := s) (b := b) (c := 0) s1 s5 b10 (by omega)
            rw [show X0_goesOn (nI (szX (some s))) (nI b) 0 h = _ from e3, b2_some]
            show ∃ g2, (if bi (fit L P wd q (some s) b) = 0 then _ else _) = _ ∧ _
            cases ef : fit L P wd q (some s) b with
            | false =>
              rw [if_pos (show bi false = 0 from rfl)]
              exact no g x3 (by rw [e, eg, ef]; rfl)
            | true =>
              rw [if_neg (by decide)]
              exact yes g x3 (by rw [e, eg, ef]; rfl)
        have worse : btr P q best b = false → ∃ g2, X4_bestSet_b96 (X4_bestSet_l11 n) (nI (szX o)) (nI most) (nI best) (nI (sm q best 1 P)) (nI (sm q best 0 P)) (nI b) (nI (sm q b 1 P)) (nI (sm q b 0 P)) h = some (nI (bst L P wd q o most (d + 1) b best), g2) ∧ FX h g2 := by
          intro e
          unfold X4_bestSet_b96 X4_bestSet_b97
          rw [if_pos rfl]
          exact no h (FX.rf h) (by rw [e]; rfl)
        by_cases a1 : sm q best 1 P < sm q b 1 P
        · rw [if_pos (nI_lt a1 (by omega))]
          exact better (by unfold btr; simp [a1])
        · rw [if_neg (nI_nlt (by omega) (by omega))]
          by_cases a2 : sm q b 1 P = sm q best 1 P
          · rw [if_pos (by rw [a2])]
            by_cases a3 : sm q b 0 P < sm q best 0 P
            · rw [if_neg (nI_ge a3 (by omega))]
              exact better (by unfold btr; simp [a2, a3])
            · rw [if_pos (nI_le (by omega) (by omega))]
              exact worse (by unfold btr; simp [a1, a3])
          · rw [if_neg (fun z => a2 ((nI_eq (by omega) (by omega)).mp z))]
            exact worse (by unfold btr; simp [a1, a2])
    · rw [if_pos (nI_lt (by omega) (by omega))]
      exact no h (FX.rf h) (by unfold gud; simp [c1])
theorem sub_pos {a c : Nat} (ha : a < 2 ^ 30) (hc : c < 2 ^ 30) : (0 : Int32) < nI a - nI c ↔ c < a := by
  rw [Int32.lt_iff_toInt_lt, pk_sub_toInt ha hc, Int32.toInt_zero]
  omega
theorem sub_zero' {a c : Nat} (ha : a < 2 ^ 30) (hc : c < 2 ^ 30) : nI a - nI c = (0 : Int32) ↔ a = c := by
  rw [← Int32.toInt_inj, pk_sub_toInt ha hc, Int32.toInt_zero]
  omega
theorem best_Y (k : Cok L P Z wd q) {o : Option Nat} (ho : ∀ s, o = some s → 1 ≤ s ∧ s ≤ 5) {most : Nat} (hm : most ≤ 10) : ∀ d b, b + d = 2 ^ P → ∀ n, d < n → ∀ (best : Nat), best < 1024 → ∀ (h : Hp), CdY h L P Z wd q → ∃ g, X5_bestSet_l5 n (nI most) (szY o) (nI best) (nI b) h = some (nI (bst L P wd q o most d b best), g) ∧ Fr h g := by
  have h10 := k.2.1
  have p10 := p2_10 h10
  have pp := Nat.one_le_two_pow (n := P)
  intro d
  induction d with
  | zero =>
    intro b hb n hn2 best hbe h cy
    obtain ⟨n, rfl⟩ : ∃ z, n = z + 1 := ⟨n - 1, by omega⟩
    rw [X5_bestSet_l5_s]
    unfold X5_bestSet_b5
    rw [all_Y cy k, b2_some, if_pos (nI_lt (by omega) (by omega))]
    exact ⟨h, rfl, Fr.rf h⟩
  | succ d ih =>
    intro b hb n hn2 best hbe h cy
    obtain ⟨n, rfl⟩ : ∃ z, n = z + 1 := ⟨n - 1, by omega⟩
    have b10 : b < 1024 := by omega
    have sb := sm_in k b
    have sbe := sm_in k best
    have pl := pop_le b 10
    have hs : bst L P wd q o most (d + 1) b best = bst L P wd q o most d (b + 1) (bif btr P q best b && gud L P wd q o most b then b else best) := rfl
    have no : ∀ g : Hp, Fr h g → (btr P q best b && gud L P wd q o most b) = false → ∃ g2, X5_bestSet_b105 (X5_bestSet_l5 n) (nI most) (szY o) (nI best) (nI b) g = some (nI (bst L P wd q o most (d + 1) b best), g2) ∧ Fr h g2 := by
      intro g x e
      rw [e] at hs
      rw [hs]
      unfold X5_bestSet_b105
      rw [i1, nI_add]
      obtain ⟨g2, e2, x2⟩ := ih (b + 1) (by omega) n (by omega) best hbe g (x.cdY k cy)
      exact ⟨g2, e2, x.tr x2⟩
    have yes : ∀ g : Hp, Fr h g → (btr P q best b && gud L P wd q o most b) = true → ∃ g2, X5_bestSet_b102 (X5_bestSet_l5 n) (nI most) (szY o) (nI b) g = some (nI (bst L P wd q o most (d + 1) b best), g2) ∧ Fr h g2 := by
      intro g x e
      rw [e] at hs
      rw [hs]
      unfold X5_bestSet_b102 X5_bestSet_b105
      rw [i1, nI_add]
      obtain ⟨g2, e2, x2⟩ := ih (b + 1) (by omega) n (by omega) b b10 g (x.cdY k cy)
      exact ⟨g2, e2, x.tr x2⟩
    have better : btr P q best b = true → ∃ g2, X5_bestSet_b56 (X5_bestSet_l5 n) (nI most) (szY o) (nI best) (nI b) h = some (nI (bst L P wd q o most (d + 1) b best), g2) ∧ Fr h g2 := by
      intro e
      unfold X5_bestSet_b56 X5_bestSet_b61
      rw [if_neg (by decide), manyOf_eq b10, b2_some]
      by_cases c1 : pop b 10 ≤ most
      · rw [if_neg (nI_nlt c1 (by omega)), hasNeeds_Y k cy (by omega), b2_some]
        cases eh : hn q b P with
        | false =>
          rw [if_pos (show bi false = 0 from rfl)]
          exact no h (Fr.rf h) (by unfold gud; rw [eh]; simp)
        | true =>
          have eg : gud L P wd q o most b = fit L P wd q o b := by unfold gud; rw [eh]; simp [c1]
          rw [if_neg (by decide)]
          cases o with
          | none =>
            rw [if_pos (show szY none = -9 from rfl)]
            exact yes h (Fr.rf h) (by rw [e, eg]; rfl)
          | some s =>
            obtain ⟨s1, s5⟩ := ho s rfl
            rw [if_neg (show ¬ szY (some s) = (-9 : Int32) from fun z => by
              have : (nI s).toInt = (-9 : Int32).toInt := congrArg Int32.toInt z
              rw [nI_toInt (by omega)] at this
              have e9 : (-9 : Int32).toInt = -9 := by decide
              omega)]
            obtain ⟨g, e3, x3, -⟩ := goesOn_Y k cy (s := s) (b := b) s5 b10
            rw [show X5_goesOn (szY (some s)) (nI b) h = _ from e3, b2_some]
            show ∃ g2, (if bi (fit L P wd q (some s) b) = 0 then _ else _) = _ ∧ _
            cases ef : fit L P wd q (some s) b with
            | false =>
              rw [if_pos (show bi false = 0 from rfl)]
              exact no g x3 (by rw [e, eg, ef]; rfl)
            | true =>
              rw [if_neg (by decide)]
              exact yes g x3 (by rw [e, eg, ef]; rfl)
      · rw [if_pos (nI_lt (by omega) (by omega))]
        exact no h (Fr.rf h) (by unfold gud; simp [c1])
    have worse : btr P q best b = false → ∃ g2, X5_bestSet_b60 (X5_bestSet_l5 n) (nI most) (szY o) (nI best) (nI b) h = some (nI (bst L P wd q o most (d + 1) b best), g2) ∧ Fr h g2 := by
      intro e
      unfold X5_bestSet_b60 X5_bestSet_b61
      rw [if_pos rfl]
      exact no h (Fr.rf h) (by rw [e]; rfl)
    have s1 : ∀ z, z < 1024 → X5_sumOf (nI z) 1 h = some (nI (sm q z 1 P), h) := fun z hz => sum5_eq (j := 1) cy k (by omega) (by omega)
    have s0 : ∀ z, z < 1024 → X5_sumOf (nI z) 0 h = some (nI (sm q z 0 P), h) := fun z hz => sum5_eq (j := 0) cy k (by omega) (by omega)
    rw [X5_bestSet_l5_s]
    unfold X5_bestSet_b5
    rw [all_Y cy k, b2_some, if_neg (nI_nlt (by omega) (by omega)), s1 b b10, b2_some, s1 best hbe, b2_some]
    by_cases a1 : sm q best 1 P < sm q b 1 P
    · rw [if_pos ((sub_pos (by omega) (by omega)).mpr a1)]
      exact better (by unfold btr; simp [a1])
    · rw [if_neg (fun z => a1 ((sub_pos (by omega) (by omega)).mp z))]
      by_cases a2 : sm q b 1 P = sm q best 1 P
      · rw [if_pos ((sub_zero' (by omega) (by omega)).mpr a2), s0 b b10, b2_some, s0 best hbe, b2_some]
        by_cases a3 : sm q b 0 P < sm q best 0 P
        · rw [if_neg (nI_ge a3 (by omega))]
          exact better (by unfold btr; simp [a2, a3])
        · rw [if_pos (nI_le (by omega) (by omega))]
          exact worse (by unfold btr; simp [a1, a3])
      · rw [if_neg (fun z => a2 ((sub_zero' (by omega) (by omega)).mp z))]
        exact worse (by unfold btr; simp [a1, a2])
theorem bst_lt {o : Option Nat} {most : Nat} : ∀ d b best, b + d ≤ 1024 → best < 1024 → bst L P wd q o most d b best < 1024 := by
  intro d
  induction d with
  | zero => intro b best _ h; exact h
  | succ d ih =>
    intro b best hb hbe
    refine ih (b + 1) _ (by omega) ?_
    cases (btr P q best b && gud L P wd q o most b) with
    | true => show b < 1024; omega
    | false => exact hbe
/-- the best set -/
def bset (L P : Nat) (wd : Nat → Nat) (q : Nat → Nat → Nat) (o : Option Nat) (most : Nat) : Nat := bst L P wd q o most (2 ^ P - 1) 1 0
theorem bestSet_X (k : Cok L P Z wd q) {o : Option Nat} (ho : ∀ s, o = some s → 1 ≤ s ∧ s ≤ 5) {most : Nat} (hm : most ≤ 10) {h : Hp} (cx : CdX h L P Z wd q) : ∃ g, X4_bestSet (nI (szX o)) (nI most) h = some (nI (bset L P wd q o most), g) ∧ FX h g := by
  have p10 := p2_10 k.2.1
  have pp := Nat.one_le_two_pow (n := P)
  have := best_X k ho hm (2 ^ P - 1) 1 (by omega) fu (fu_pos (by omega)) 0 h cx
  rw [sm_0, sm_0] at this
  exact this
theorem bestSet_Y (k : Cok L P Z wd q) {o : Option Nat} (ho : ∀ s, o = some s → 1 ≤ s ∧ s ≤ 5) {most : Nat} (hm : most ≤ 10) {h : Hp} (cy : CdY h L P Z wd q) : ∃ g, X5_bestSet (nI most) (szY o) h = some (nI (bset L P wd q o most), g) ∧ Fr h g := by
  have p10 := p2_10 k.2.1
  have pp := Nat.one_le_two_pow (n := P)
  exact best_Y k ho hm (2 ^ P - 1) 1 (by omega) fu (fu_pos (by omega)) 0 (by omega) h cy
theorem bset_lt (k : Cok L P Z wd q) (o : Option Nat) (most : Nat) : bset L P wd q o most < 1024 := by
  have p10 := p2_10 k.2.1
  have pp := Nat.one_le_two_pow (n := P)
  exact bst_lt (2 ^ P - 1) 1 0 (by omega) (by omega)
end
theorem ok_kept (x y : Int32) : OK (X4_kept x y) (X5_kept x y) := by
  intro h ⟨L, P, Z, wd, q, R⟩
  obtain ⟨k, cx, cy, -⟩ := id R
  have z1 := k.2.2.1
  unfold X4_kept X5_kept
  rw [isSize_eq cx, b2_some]
  by_cases hx : nI Z ≤ x ∧ x ≤ 5
  · obtain ⟨s, s1, s2, rfl⟩ := inZ k.2.2.2.1 hx
    rw [if_pos hx, if_neg (by decide), X4_within_eq, b2_some]
    by_cases hy : (0 : Int32) ≤ y ∧ y ≤ 1
    · obtain ⟨g, e, xg⟩ := bestSet_X k (o := some s) (fun t ht => by cases ht; exact ⟨by omega, s2⟩) (most := 10) (by omega) cx
      have cg := xg.cd cx
      obtain ⟨g2, e2, f2⟩ := bestSet_Y k (o := some s) (fun t ht => by cases ht; exact ⟨by omega, s2⟩) (most := 10) (by omega) (xg.fr.cdY k cy)
      have lt := bset_lt k (some s) 10
      have c2 := f2.cdY k (xg.fr.cdY k cy)
      refine ⟨if y = 0 then nI (sm q (bset L P wd q (some s) 10) 1 P) else nI (bset L P wd q (some s) 10), g, g2, ?_, ?_, L, P, Z, wd, q, R.fr (xg.fr.tr f2)⟩
      · rw [if_pos hy, if_neg (by decide), show X4_bestSet (nI s) 10 h = _ from e, b2_some]
        by_cases y0 : y = 0
        · rw [if_pos y0, if_pos y0, show X3_sum (nI (bset L P wd q (some s) 10)) 1 g = _ from sum4_eq (j := 1) cg k (by omega) (by omega), b2_some]
        · rw [if_neg y0, if_neg y0]
      · rw [isSize5_eq (xg.fr.cdY k cy), b2_some, if_pos hx, if_neg (by decide), X5_in_eq, b2_some, if_pos hy, if_neg (by decide), show X5_bestSet 10 (nI s) g = _ from e2, b2_some]
        by_cases y0 : y = 0
        · rw [if_pos y0, if_pos y0, show X5_sumOf (nI (bset L P wd q (some s) 10)) 1 g2 = _ from sum5_eq (j := 1) c2 k (by omega) (by omega), b2_some]
        · rw [if_neg y0, if_neg y0]
    · refine ⟨-1, h, h, by rw [if_neg hy, if_pos rfl], ?_, L, P, Z, wd, q, R⟩
      rw [isSize5_eq cy, b2_some, if_pos hx, if_neg (by decide), X5_in_eq, b2_some, if_neg hy, if_pos rfl]
  · refine ⟨-1, h, h, by rw [if_neg hx, if_pos rfl], ?_, L, P, Z, wd, q, R⟩
    rw [isSize5_eq cy, b2_some, if_neg hx, if_pos rfl]
theorem ok_telegram (x y : Int32) : OK (X4_telegram x y) (X5_telegram x y) := by
  intro h ⟨L, P, Z, wd, q, R⟩
  obtain ⟨k, cx, cy, -⟩ := id R
  unfold X4_telegram X5_telegram
  rw [X4_within_eq, b2_some]
  by_cases hx : (0 : Int32) ≤ x ∧ x ≤ 10
  · obtain ⟨m, hm, rfl⟩ := inP (n := 10) (by omega) hx
    rw [if_pos hx, if_neg (by decide), X4_within_eq, b2_some]
    by_cases hy : (0 : Int32) ≤ y ∧ y ≤ 1
    · obtain ⟨g, e, xg⟩ := bestSet_X k (o := none) (fun t ht => by cases ht) hm cx
      have cg := xg.cd cx
      obtain ⟨g2, e2, f2⟩ := bestSet_Y k (o := none) (fun t ht => by cases ht) hm (xg.fr.cdY k cy)
      have lt := bset_lt k none m
      have c2 := f2.cdY k (xg.fr.cdY k cy)
      refine ⟨if y = 0 then nI (sm q (bset L P wd q none m) 1 P) else nI (bset L P wd q none m), g, g2, ?_, ?_, L, P, Z, wd, q, R.fr (xg.fr.tr f2)⟩
      · rw [if_pos hy, if_neg (by decide), show X4_bestSet 0 (nI m) h = _ from e, b2_some]
        by_cases y0 : y = 0
        · rw [if_pos y0, if_pos y0, show X3_sum (nI (bset L P wd q none m)) 1 g = _ from sum4_eq (j := 1) cg k (by omega) (by omega), b2_some]
        · rw [if_neg y0, if_neg y0]
      · rw [X5_in_eq, b2_some, if_pos hx, if_neg (by decide), X5_in_eq, b2_some, if_pos hy, if_neg (by decide), show X5_bestSet (nI m) (-9) g = _ from e2, b2_some]
        by_cases y0 : y = 0
        · rw [if_pos y0, if_pos y0, show X5_sumOf (nI (bset L P wd q none m)) 1 g2 = _ from sum5_eq (j := 1) c2 k (by omega) (by omega), b2_some]
        · rw [if_neg y0, if_neg y0]
    · refine ⟨-1, h, h, by rw [if_neg hy, if_pos rfl], ?_, L, P, Z, wd, q, R⟩
      rw [X5_in_eq, b2_some, if_pos hx, if_neg (by decide), X5_in_eq, b2_some, if_neg hy, if_pos rfl]
  · refine ⟨-1, h, h, by rw [if_neg hx, if_pos rfl], ?_, L, P, Z, wd, q, R⟩
    rw [X5_in_eq, b2_some, if_neg hx, if_pos rfl]
