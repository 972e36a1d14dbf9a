/-! odds -/
def wy (t c : Nat) : Nat → Nat
  | 0 => 1
  | i + 1 => wy t c i * (if c / 2 ^ i % 2 = 1 then t else 10 - t)
theorem wy_pow (t c i : Nat) : wy t c i = t ^ pop c i * (10 - t) ^ (i - pop c i) := by
  induction i with
  | zero => rfl
  | succ i ih =>
    have hp := pop_le c i
    have m2 : c / 2 ^ i % 2 < 2 := Nat.mod_lt _ (by omega)
    show wy t c i * _ = t ^ (pop c i + c / 2 ^ i % 2) * (10 - t) ^ (i + 1 - (pop c i + c / 2 ^ i % 2))
    rw [ih]
    by_cases e : c / 2 ^ i % 2 = 1
    · rw [if_pos e, e, show i + 1 - (pop c i + 1) = i - pop c i by omega, Nat.pow_succ, Nat.mul_assoc, Nat.mul_assoc, Nat.mul_comm _ t]
    · have e0 : c / 2 ^ i % 2 = 0 := by omega
      rw [if_neg e, e0, Nat.add_zero, show i + 1 - pop c i = (i - pop c i) + 1 by omega, Nat.pow_succ, Nat.mul_assoc]
theorem wy_le {t : Nat} (ht : t ≤ 10) (c i : Nat) : wy t c i ≤ 10 ^ i := by
  induction i with
  | zero => exact Nat.le_refl 1
  | succ i ih =>
    show wy t c i * _ ≤ 10 ^ i * 10
    refine Nat.mul_le_mul ih ?_
    by_cases e : c / 2 ^ i % 2 = 1
    · rw [if_pos e]; exact ht
    · rw [if_neg e]; omega
def upS (ok : Nat → Bool) (t n : Nat) : Nat → Nat
  | 0 => 0
  | c + 1 => upS ok t n c + bif ok c then wy t c n else 0
theorem upS_le {t : Nat} (ht : t ≤ 10) (ok : Nat → Bool) (n c : Nat) : upS ok t n c ≤ c * 10 ^ n := by
  induction c with
  | zero => exact Nat.zero_le _
  | succ c ih =>
    have := wy_le ht c n
    show upS ok t n c + _ ≤ (c + 1) * 10 ^ n
    rw [Nat.add_mul, Nat.one_mul]
    refine Nat.add_le_add ih ?_
    cases ok c with
    | true => exact this
    | false => exact Nat.zero_le _
theorem pop_up {c n : Nat} (hc : c < 2 ^ n) : ∀ d, pop c (n + d) = pop c n := by
  intro d
  induction d with
  | zero => rfl
  | succ d ih =>
    show pop c (n + d) + c / 2 ^ (n + d) % 2 = pop c n
    have : c < 2 ^ (n + d) := Nat.lt_of_lt_of_le hc (Nat.pow_le_pow_right (by omega) (by omega))
    rw [ih, Nat.div_eq_of_lt this]
    rfl
/-! the least terms -/
def LT (U W up n i : Nat) : Prop := ∃ a b, a ≤ i ∧ b ≤ i ∧ up = U * (2 ^ a * 5 ^ b) ∧ W = 2 ^ (n - a) * 5 ^ (n - b) ∧ (a < i → U % 2 ≠ 0) ∧ (b < i → U % 5 ≠ 0)
theorem LT_end {U W up n : Nat} (h : LT U W up n n) : U = up / Nat.gcd up (10 ^ n) ∧ W = 10 ^ n / Nat.gcd up (10 ^ n) := by
  obtain ⟨a, b, ha, hb, h1, h2, h3, h4⟩ := h
  have e10 : 10 ^ n = W * (2 ^ a * 5 ^ b) := by
    rw [h2, show (10 : Nat) = 2 * 5 from rfl, Nat.mul_pow, Nat.mul_mul_mul_comm, Nat.pow_sub_mul_pow _ ha, Nat.pow_sub_mul_pow _ hb]
  have c2 : Nat.Coprime U (2 ^ (n - a)) := by
    by_cases e : a < n
    · apply Nat.Coprime.pow_right
      have h3 := h3 e
      show Nat.gcd U 2 = 1
      rw [Nat.gcd_comm, Nat.gcd_rec, show U % 2 = 1 by omega]
      decide
    · rw [show n - a = 0 by omega]
      exact Nat.gcd_one_right U
  have c5 : Nat.Coprime U (5 ^ (n - b)) := by
    by_cases e : b < n
    · apply Nat.Coprime.pow_right
      have h4 := h4 e
      show Nat.gcd U 5 = 1
      rw [Nat.gcd_comm, Nat.gcd_rec]
      have : U % 5 = 1 ∨ U % 5 = 2 ∨ U % 5 = 3 ∨ U % 5 = 4 := by omega
      rcases this with e | e | e | e <;> rw [e] <;> decide
    · rw [show n - b = 0 by omega]
      exact Nat.gcd_one_right U
  have cc : Nat.gcd U W = 1 := by
    rw [h2]
    exact Nat.Coprime.mul_right c2 c5
  have dp : 0 < 2 ^ a * 5 ^ b := Nat.mul_pos (Nat.pow_pos (by omega)) (Nat.pow_pos (by omega))
  have eg : Nat.gcd up (10 ^ n) = 2 ^ a * 5 ^ b := by rw [e10, h1, Nat.gcd_mul_right, cc, Nat.one_mul]
  rw [eg]
  constructor
  · rw [h1, Nat.mul_div_cancel _ dp]
  · rw [e10, Nat.mul_div_cancel _ dp]
theorem LT_two {U W up n i b : Nat} (a : Nat) (hi : i < n) (ha : a ≤ i) (h1 : up = U * (2 ^ a * 5 ^ b)) (h2 : W = 2 ^ (n - a) * 5 ^ (n - b)) (e : U % 2 = 0) : up = U / 2 * (2 ^ (a + 1) * 5 ^ b) ∧ W / 2 = 2 ^ (n - (a + 1)) * 5 ^ (n - b) := by
  constructor
  · rw [h1, Nat.pow_succ, Nat.mul_comm (2 ^ a) 2, Nat.mul_assoc 2 (2 ^ a), ← Nat.mul_assoc (U / 2) 2, Nat.div_mul_cancel (Nat.dvd_of_mod_eq_zero e)]
  · rw [h2, show n - a = (n - (a + 1)) + 1 by omega, Nat.pow_succ, Nat.mul_comm (2 ^ _) 2, Nat.mul_assoc, Nat.mul_div_cancel_left _ (by omega)]
theorem LT_five {U W up n i a : Nat} (b : Nat) (hi : i < n) (hb : b ≤ i) (h1 : up = U * (2 ^ a * 5 ^ b)) (h2 : W = 2 ^ (n - a) * 5 ^ (n - b)) (e : U % 5 = 0) : up = U / 5 * (2 ^ a * 5 ^ (b + 1)) ∧ W / 5 = 2 ^ (n - a) * 5 ^ (n - (b + 1)) := by
  constructor
  · rw [h1, Nat.pow_succ, Nat.mul_comm (5 ^ b) 5, Nat.mul_left_comm (2 ^ a) 5, ← Nat.mul_assoc (U / 5) 5, Nat.div_mul_cancel (Nat.dvd_of_mod_eq_zero e)]
  · rw [h2, show n - b = (n - (b + 1)) + 1 by omega, Nat.pow_succ, Nat.mul_comm (5 ^ _) 5, Nat.mul_left_comm _ 5, Nat.mul_div_cancel_left _ (by omega)]
theorem lgle {a : Nat} (ha : a < 2 ^ 63) : lg_cmp (lN a) 0 ≤ 0 ↔ a = 0 := by
  rw [lg_cmp_le, show (0 : Int64) = lN 0 from rfl, pk_lLE ha (by omega)]
  omega
theorem lg0 {a : Nat} (ha : a < 2 ^ 63) : lg_cmp (lN a) 0 = 0 ↔ a = 0 := by
  constructor
  · intro e
    exact (lgle ha).mp (by rw [e]; exact Int32.le_refl 0)
  · intro e
    subst e
    rfl
theorem l2' : (2 : Int64) = lN 2 := rfl
theorem l5' : (5 : Int64) = lN 5 := rfl
theorem l10' : (10 : Int64) = lN 10 := rfl
theorem l1' : (1 : Int64) = lN 1 := rfl
theorem l0' : (0 : Int64) = lN 0 := rfl
theorem power_loop {t e : Nat} (ht : t < 2 ^ 31) (he : e < 2 ^ 31) (h : Hp) : ∀ d i, i + d = e → ∀ n, d < n → X4_power_l5 n (nI t) (nI e) (lN (t ^ i)) (nI i) h = some (lN (t ^ e), h) := by
  intro d
  induction d with
  | zero =>
    intro i hi n hn
    obtain ⟨n, rfl⟩ : ∃ z, n = z + 1 := ⟨n - 1, by omega⟩
    have : i = e := by omega
    subst this
    rw [X4_power_l5_s]
    unfold X4_power_b5
    rw [if_pos (Int32.le_refl _)]
  | succ d ih =>
    intro i hi n hn
    obtain ⟨n, rfl⟩ : ∃ z, n = z + 1 := ⟨n - 1, by omega⟩
    rw [X4_power_l5_s]
    unfold X4_power_b5
    rw [if_neg (nI_ge (by omega) (by omega)), nI_l ht, lN_mul, ← Nat.pow_succ, i1, nI_add]
    exact ih (i + 1) (by omega) n (by omega)
theorem power_eq {t e : Nat} (ht : t < 2 ^ 31) (he : e < 1000) (h : Hp) : X4_power (nI t) (nI e) h = some (lN (t ^ e), h) := power_loop ht (by omega) h e 0 (by omega) fu (fu_pos (by omega))
theorem least_loop {up n : Nat} (hup : up < 2 ^ 60) (hn9 : n ≤ 9) (z : Int32) (h : Hp) : ∀ d i, i + d = n → ∀ m, d < m → ∀ U W, LT U W up n i → X4_leastTerm_l11 m (lN U) (nI n) z (lN W) (nI i) h = some (if z = 0 then lN (up / Nat.gcd up (10 ^ n)) else lN (10 ^ n / Nat.gcd up (10 ^ n)), h) := by
  intro d
  induction d with
  | zero =>
    intro i hi m hm U W lt
    obtain ⟨m, rfl⟩ : ∃ z, m = z + 1 := ⟨m - 1, by omega⟩
    have : i = n := by omega
    subst this
    rw [X4_leastTerm_l11_s]
    unfold X4_leastTerm_b11
    rw [if_pos (Int32.le_refl _)]
    obtain ⟨e1, e2⟩ := LT_end lt
    rw [← e1, ← e2]
    by_cases z0 : z = 0
    · rw [if_pos z0, if_pos z0]
    · rw [if_neg z0, if_neg z0]
  | succ d ih =>
    intro i hi m hm U W lt
    obtain ⟨m, rfl⟩ : ∃ z, m = z + 1 := ⟨m - 1, by omega⟩
    obtain ⟨a, b, ha, hb, h1, h2, h3, h4⟩ := lt
    have dp : 0 < 2 ^ a * 5 ^ b := Nat.mul_pos (Nat.pow_pos (by omega)) (Nat.pow_pos (by omega))
    have uB : U ≤ up := by rw [h1]; exact Nat.le_mul_of_pos_right _ dp
    have wB : W ≤ 10 ^ 9 := by
      rw [h2]
      have q1 : 2 ^ (n - a) ≤ 2 ^ 9 := Nat.pow_le_pow_right (by omega) (by omega)
      have q2 : 5 ^ (n - b) ≤ 5 ^ 9 := Nat.pow_le_pow_right (by omega) (by omega)
      exact Nat.le_trans (Nat.mul_le_mul q1 q2) (by decide)
    have p9 : (10 : Nat) ^ 9 = 1000000000 := by decide
    have i30 : (2 : Nat) ^ 60 < 2 ^ 63 := by decide
    rw [X4_leastTerm_l11_s]
    unfold X4_leastTerm_b11
    rw [if_neg (nI_ge (by omega) (by omega)), l2', pk_lRem (by omega) (by omega) (by omega), pk_lDiv (by omega) (by omega) (by omega), pk_lDiv (by omega) (by omega) (by omega)]
    have five : ∀ U W a b, U < 2 ^ 63 → W < 2 ^ 63 → a ≤ i + 1 → b ≤ i → up = U * (2 ^ a * 5 ^ b) → W = 2 ^ (n - a) * 5 ^ (n - b) → (a < i + 1 → U % 2 ≠ 0) → (b < i → U % 5 ≠ 0) → X4_leastTerm_b41 (X4_leastTerm_l11 m) (lN U) (nI n) z (lN W) (nI i) h = some (if z = 0 then lN (up / Nat.gcd up (10 ^ n)) else lN (10 ^ n / Nat.gcd up (10 ^ n)), h) := by
      intro U W a b hU hW ha hb h1 h2 h3 h4
      unfold X4_leastTerm_b41 X4_leastTerm_b65
      rw [l5', pk_lRem (by omega) (by omega) (by omega), pk_lDiv (by omega) (by omega) (by omega), pk_lDiv (by omega) (by omega) (by omega), i1, nI_add]
      by_cases e : U % 5 = 0
      · rw [if_pos ((lg0 (by omega)).mpr e)]
        obtain ⟨q1, q2⟩ := LT_five b (by omega : i < n) hb h1 h2 e
        exact ih (i + 1) (by omega) m (by omega) _ _ ⟨a, b + 1, ha, by omega, q1, q2, fun q => by have := h3 q; omega, fun q => by omega⟩
      · rw [if_neg (fun q => e ((lg0 (by omega)).mp q))]
        exact ih (i + 1) (by omega) m (by omega) _ _ ⟨a, b, ha, by omega, h1, h2, h3, fun q => e⟩
    by_cases e : U % 2 = 0
    · rw [if_pos ((lg0 (by omega)).mpr e)]
      obtain ⟨q1, q2⟩ := LT_two a (by omega : i < n) ha h1 h2 e
      exact five _ _ (a + 1) b (by omega) (by omega) (by omega) hb q1 q2 (fun q => by omega) (fun q => by have := h4 q; omega)
    · rw [if_neg (fun q => e ((lg0 (by omega)).mp q))]
      exact five _ _ a b (by omega) (by omega) (by omega) hb h1 h2 (fun q => e) h4
theorem least_eq {up n : Nat} (hup : up < 2 ^ 60) (hn9 : n ≤ 9) (z : Int32) (h : Hp) : X4_leastTerm (lN up) (nI n) z h = some (if z = 0 then lN (up / Nat.gcd up (10 ^ n)) else lN (10 ^ n / Nat.gcd up (10 ^ n)), h) := by
  unfold X4_leastTerm
  rw [show (10 : Int32) = nI 10 from rfl, power_eq (by omega) (by omega), b2_some]
  refine least_loop hup hn9 z h n 0 (by omega) fu (fu_pos (by omega)) up (10 ^ n) ⟨0, 0, Nat.le_refl 0, Nat.le_refl 0, (Nat.mul_one up).symm, ?_, fun q => by omega, fun q => by omega⟩
  rw [Nat.sub_zero, ← Nat.mul_pow]
theorem gcd_step {a b : Nat} (hb : 0 < b) : Nat.gcd a b = Nat.gcd b (a % b) := by
  rw [Nat.gcd_comm a b, Nat.gcd_rec b a, Nat.gcd_comm]
theorem gcd_one {up dn : Nat} (z : Int32) (h : Hp) {a b n : Nat} (ha : a < 2 ^ 60) (hb : b < 2 ^ 60) (h0 : 0 < b) : X5_odds_l196 (n + 1) z (lN up) (lN dn) (lN a) (lN b) h = X5_odds_l196 n z (lN up) (lN dn) (lN b) (lN (a % b)) h := by
  have i30 : (2 : Nat) ^ 60 < 2 ^ 63 := by decide
  rw [X5_odds_l196_s]
  unfold X5_odds_b196
  rw [if_neg (fun q => by have := (lg0 (by omega)).mp q; omega), if_neg (fun q => by have := (pk_lEQ (a := b) (b := 0) (by omega) (by omega)).mp q; omega), pk_lRem (by omega) h0 (by omega)]
theorem gcd_end {up dn : Nat} (hup : up < 2 ^ 60) (hdn : dn < 2 ^ 60) (z : Int32) (h : Hp) {a n : Nat} (ha : a < 2 ^ 60) (h0 : 0 < a) : X5_odds_l196 (n + 1) z (lN up) (lN dn) (lN a) (lN 0) h = some (if z = 0 then lN (up / a) else lN (dn / a), h) := by
  have i30 : (2 : Nat) ^ 60 < 2 ^ 63 := by decide
  have na : ¬ lN a = 0 := fun q => by have := (pk_lEQ (a := a) (b := 0) (by omega) (by omega)).mp q; omega
  rw [X5_odds_l196_s]
  unfold X5_odds_b196
  rw [if_pos ((lg0 (a := 0) (by omega)).mpr rfl), if_neg na, if_neg na, pk_lDiv (by omega) h0 (by omega), pk_lDiv (by omega) h0 (by omega)]
  by_cases z0 : z = 0
  · rw [if_pos z0, if_pos z0]
  · rw [if_neg z0, if_neg z0]
theorem gcd_loop {up dn : Nat} (hup : up < 2 ^ 60) (hdn : dn < 2 ^ 60) (z : Int32) (h : Hp) : ∀ m, m ≤ 60 → ∀ a b n, a < 2 ^ 60 → b < 2 ^ m → 0 < a + b → 2 * m < n → X5_odds_l196 n z (lN up) (lN dn) (lN a) (lN b) h = some (if z = 0 then lN (up / Nat.gcd a b) else lN (dn / Nat.gcd a b), h) := by
  intro m
  induction m with
  | zero =>
    intro _ a b n ha hb hab hn
    obtain ⟨n, rfl⟩ : ∃ z, n = z + 1 := ⟨n - 1, by omega⟩
    have : b = 0 := by omega
    subst this
    rw [gcd_end hup hdn z h ha (by omega), Nat.gcd_zero_right]
  | succ m ih =>
    intro hm a b n ha hb hab hn
    obtain ⟨n, rfl⟩ : ∃ z, n = z + 1 + 1 := ⟨n - 2, by omega⟩
    have p60 : 2 ^ (m + 1) ≤ 2 ^ 60 := Nat.pow_le_pow_right (by omega) hm
    by_cases b0 : b = 0
    · subst b0
      rw [gcd_end hup hdn z h ha (by omega), Nat.gcd_zero_right]
    · have r1 : a % b < b := Nat.mod_lt _ (by omega)
      rw [gcd_one z h ha (by omega) (by omega), gcd_step (by omega)]
      by_cases r0 : a % b = 0
      · rw [r0, gcd_end hup hdn z h (by omega) (by omega), Nat.gcd_zero_right]
      · rw [gcd_one z h (by omega) (by omega) (by omega), gcd_step (by omega)]
        have r2 : b % (a % b) < a % b := Nat.mod_lt _ (by omega)
        have r3 : b % (a % b) + a % b ≤ b := by
          have e1 := Nat.div_add_mod b (a % b)
          have e2 : 1 ≤ b / (a % b) := (Nat.one_le_div_iff (by omega)).mpr (by omega)
          have e3 : (a % b) * 1 ≤ (a % b) * (b / (a % b)) := Nat.mul_le_mul_left _ e2
          omega
        rw [Nat.pow_succ] at hb
        exact ih (by omega) _ _ n (by omega) (by omega) (by omega) (by omega)
theorem down_loop {up e : Nat} (he : e ≤ 9) (z : Int32) (h : Hp) : ∀ d i, i + d = e → ∀ n, d < n → X5_odds_l167 n z (nI e) (lN up) (lN (10 ^ i)) (nI i) h = X5_odds_l196 fu z (lN up) (lN (10 ^ e)) (lN up) (lN (10 ^ e)) h := by
  intro d
  induction d with
  | zero =>
    intro i hi n hn
    obtain ⟨n, rfl⟩ : ∃ z, n = z + 1 := ⟨n - 1, by omega⟩
    have : i = e := by omega
    subst this
    rw [X5_odds_l167_s]
    unfold X5_odds_b167
    rw [if_pos (Int32.le_refl _)]
  | succ d ih =>
    intro i hi n hn
    obtain ⟨n, rfl⟩ : ∃ z, n = z + 1 := ⟨n - 1, by omega⟩
    rw [X5_odds_l167_s]
    unfold X5_odds_b167
    rw [if_neg (nI_ge (by omega) (by omega)), l10', lN_mul, ← Nat.pow_succ, i1, nI_add]
    exact ih (i + 1) (by omega) n (by omega)
section
variable {L P Z : Nat} {wd : Nat → Nat} {q : Nat → Nat → Nat}
def okc (L P : Nat) (wd : Nat → Nat) (q : Nat → Nat → Nat) (s c : Nat) : Bool := (stt L wd (fun _ => s) (lnX q c) (2 ^ P - 1) P).isSome
theorem odds_X (k : Cok L P Z wd q) {s t n : Nat} (h1 : 1 ≤ s) (h5 : s ≤ 5) (ht : t ≤ 10) (hn9 : n ≤ 9) (z : Int32) : ∀ d c, c + d = 2 ^ n → ∀ m, d < m → ∀ h : Hp, CdX h L P Z wd q → ∃ g, FX h g ∧ X4_odds_l51 m (nI s) (nI t) z (nI n) (lN (upS (okc L P wd q s) t n c)) (nI c) h = b2 (X4_leastTerm (lN (upS (okc L P wd q s) t n (2 ^ n))) (nI n) z g) fun v g => some (v, g) := by
  have h10 := k.2.1
  have p10 := p2_10 h10
  have pp := Nat.one_le_two_pow (n := P)
  have pn : 2 ^ n ≤ 2 ^ 9 := Nat.pow_le_pow_right (by omega) hn9
  have p9 : (2 : Nat) ^ 9 = 512 := by decide
  intro d
  induction d with
  | zero =>
    intro c hc m hm h cx
    obtain ⟨m, rfl⟩ : ∃ z, m = z + 1 := ⟨m - 1, by omega⟩
    have : c = 2 ^ n := by omega
    subst this
    rw [X4_odds_l51_s]
    unfold X4_odds_b51
    rw [nI_shl (by omega), if_pos (Int32.le_refl _)]
    exact ⟨h, FX.rf h, rfl⟩
  | succ d ih =>
    intro c hc m hm h cx
    obtain ⟨m, rfl⟩ : ∃ z, m = z + 1 := ⟨m - 1, by omega⟩
    rw [X4_odds_l51_s]
    unfold X4_odds_b51
    obtain ⟨g, e, x, -⟩ := goesOn_X k cx h1 h5 (b := 2 ^ P - 1) (c := c) (by omega) (by omega)
    rw [nI_shl (by omega), if_neg (nI_ge (by omega) (by omega)), all_X cx k, b2_some, e, b2_some, show (stt L wd (fun _ => s) (lnX q c) (2 ^ P - 1) P).isSome = okc L P wd q s c from rfl]
    unfold X4_odds_b111
    obtain ⟨g2, x2, e2⟩ := ih (c + 1) (by omega) m (by omega) g (x.cd cx)
    refine ⟨g2, x.tr x2, ?_⟩
    rw [← e2]
    show _ = X4_odds_l51 m (nI s) (nI t) z (nI n) (lN (upS (okc L P wd q s) t n c + bif okc L P wd q s c then wy t c n else 0)) (nI (c + 1)) g
    cases okc L P wd q s c with
    | false =>
      rw [if_pos (show bi false = 0 from rfl), i1, nI_add]
      rfl
    | true =>
      have hp := pop_le c n
      have ep : pop c 10 = pop c n := by
        have := pop_up (c := c) (n := n) (by omega) (10 - n)
        rw [show n + (10 - n) = 10 by omega] at this
        exact this
      rw [if_neg (by decide : ¬ bi true = 0), bitCount_eq (by omega), b2_some, ep, power_eq (by omega) (by omega), b2_some, show (10 : Int32) = nI 10 from rfl, pk_sub ht, pk_sub hp, power_eq (by omega) (by omega), b2_some, lN_mul, lN_add, ← wy_pow, i1, nI_add]
      rfl
theorem ways_loop (k : Cok L P Z wd q) {s t n c : Nat} (h1 : 1 ≤ s) (h5 : s ≤ 5) (ht : t ≤ 10) (hn9 : n ≤ 9) (hc : c < 512) (z : Int32) (K : Int32 → Int32 → Int32 → Int32 → Int64 → Int32 → Hp → Option (Int64 × Hp)) (up : Nat) : ∀ d i, i + d = n → ∀ m, d < m → ∀ h : Hp, CdY h L P Z wd q → ∃ g, Fr h g ∧ X5_odds_l76 K m (nI s) (nI t) z (nI n) (lN up) (nI c) (lN (wy t c i)) (nI i) h = K (nI s) (nI t) z (nI n) (lN (up + bif okc L P wd q s c then wy t c n else 0)) (nI (c + 1)) g := by
  have h10 := k.2.1
  have p10 := p2_10 h10
  have pp := Nat.one_le_two_pow (n := P)
  intro d
  induction d with
  | zero =>
    intro i hi m hm h cy
    obtain ⟨m, rfl⟩ : ∃ z, m = z + 1 := ⟨m - 1, by omega⟩
    have : i = n := by omega
    subst this
    rw [X5_odds_l76_s]
    unfold X5_odds_b76
    obtain ⟨g, e, my, f⟩ := allSizes_Y k cy s
    have wB : wy t c i ≤ 10 ^ 9 := Nat.le_trans (wy_le ht c i) (Nat.pow_le_pow_right (by omega) hn9)
    have p9 : (10 : Nat) ^ 9 = 1000000000 := by decide
    have f2 := f.s 20 18 (nI c) rfl
    have my2 : MY (sI g 20 18 (nI c)) L P Z wd q (fun _ => s) 0 c := ⟨f2.cdY k cy, my.2.1, my.2.2.1, rfl⟩
    rw [if_pos (Int32.le_refl _), e, bind_some']
    unfold X5_odds_b151 X5_odds_b152
    by_cases w0 : wy t c i = 0
    · rw [if_pos ((lgle (by omega)).mpr w0), w0, l0', lN_add, i1, nI_add]
      refine ⟨_, f2, ?_⟩
      cases okc L P wd q s c <;> rfl
    · rw [if_neg (fun q => w0 ((lgle (by omega)).mp q)), all_Y my2.1 k, b2_some]
      obtain ⟨g3, e3, x3, -⟩ := fillBy_Y k (b := 2 ^ P - 1) (by omega) (fun l _ => h5) (by omega) (by omega) my2
      rw [weX0] at e3
      rw [e3, b2_some, show (stt L wd (fun _ => s) (lnX q c) (2 ^ P - 1) P).isSome = okc L P wd q s c from rfl]
      refine ⟨g3, f2.tr x3.fr, ?_⟩
      cases okc L P wd q s c with
      | false => rw [if_pos (show bi false = 0 from rfl), l0', lN_add, i1, nI_add]; rfl
      | true => rw [if_neg (by decide : ¬ bi true = 0), lN_add, i1, nI_add]; rfl
  | succ d ih =>
    intro i hi m hm h cy
    obtain ⟨m, rfl⟩ : ∃ z, m = z + 1 := ⟨m - 1, by omega⟩
    rw [X5_odds_l76_s]
    unfold X5_odds_b76
    have m2 : c / 2 ^ i % 2 < 2 := Nat.mod_lt _ (by omega)
    have st := ih (i + 1) (by omega) m (by omega) h cy
    have st : ∃ g, Fr h g ∧ X5_odds_l76 K m (nI s) (nI t) z (nI n) (lN up) (nI c) (lN (wy t c i * (if c / 2 ^ i % 2 = 1 then t else 10 - t))) (nI (i + 1)) h = K (nI s) (nI t) z (nI n) (lN (up + bif okc L P wd q s c then wy t c n else 0)) (nI (c + 1)) g := st
    rw [if_neg (nI_ge (by omega) (by omega)), nI_bit (by omega) (by omega)]
    unfold X5_odds_b106
    by_cases e : c / 2 ^ i % 2 = 1
    · rw [if_pos e] at st
      rw [e, if_pos (by decide), nI_l (by omega), lN_mul, i1, nI_add]
      exact st
    · have e0 : c / 2 ^ i % 2 = 0 := by omega
      rw [if_neg e] at st
      rw [e0, if_neg (by decide), show (10 : Int32) = nI 10 from rfl, pk_sub ht, nI_l (by omega), lN_mul, i1, nI_add]
      exact st
theorem odds_Y (k : Cok L P Z wd q) {s t n : Nat} (h1 : 1 ≤ s) (h5 : s ≤ 5) (ht : t ≤ 10) (hn9 : n ≤ 9) (z : Int32) : ∀ d c, c + d = 2 ^ n → ∀ m, d < m → ∀ h : Hp, CdY h L P Z wd q → ∃ g, Fr h g ∧ X5_odds_l61 m (nI s) (nI t) z (nI n) (lN (upS (okc L P wd q s) t n c)) (nI c) h = X5_odds_l167 fu z (nI n) (lN (upS (okc L P wd q s) t n (2 ^ n))) 1 0 g := by
  have pn : 2 ^ n ≤ 2 ^ 9 := Nat.pow_le_pow_right (by omega) hn9
  have p9 : (2 : Nat) ^ 9 = 512 := by decide
  intro d
  induction d with
  | zero =>
    intro c hc m hm h cy
    obtain ⟨m, rfl⟩ : ∃ z, m = z + 1 := ⟨m - 1, by omega⟩
    have : c = 2 ^ n := by omega
    subst this
    rw [X5_odds_l61_s]
    unfold X5_odds_b61
    rw [nI_shl (by omega), if_pos (Int32.le_refl _)]
    exact ⟨h, Fr.rf h, rfl⟩
  | succ d ih =>
    intro c hc m hm h cy
    obtain ⟨m, rfl⟩ : ∃ z, m = z + 1 := ⟨m - 1, by omega⟩
    rw [X5_odds_l61_s]
    unfold X5_odds_b61
    obtain ⟨g, f, e⟩ := ways_loop k h1 h5 ht hn9 (by omega : c < 512) z (X5_odds_l61 m) (upS (okc L P wd q s) t n c) n 0 (by omega) fu (fu_pos (by omega)) h cy
    rw [nI_shl (by omega), if_neg (nI_ge (by omega) (by omega)), show X5_odds_l76 (X5_odds_l61 m) fu (nI s) (nI t) z (nI n) (lN (upS (okc L P wd q s) t n c)) (nI c) 1 0 h = _ from e]
    obtain ⟨g2, f2, e2⟩ := ih (c + 1) (by omega) m (by omega) g (f.cdY k cy)
    exact ⟨g2, f.tr f2, e2⟩
end
theorem ok_odds (x y z : Int32) : OK (X4_odds x y z) (X5_odds x y z) := by
  intro h ⟨L, P, Z, wd, q, R⟩
  obtain ⟨k, cx, cy, -⟩ := id R
  have h10 := k.2.1
  have z1 := k.2.2.1
  unfold X4_odds X5_odds
  rw [isSize_eq cx, b2_some]
  by_cases hx : nI Z ≤ x ∧ x ≤ 5
  · obtain ⟨s, s1, s2, rfl⟩ := inZ k.2.2.2.1 hx
    rw [if_pos hx, if_neg (by decide), X4_within_eq, b2_some]
    by_cases hy : (0 : Int32) ≤ y ∧ y ≤ 10
    · obtain ⟨t, ht, rfl⟩ := ix_of ((ix_iff (n := 11) (by omega)).mp ⟨hy.1, hy.2⟩) (by omega)
      rw [if_pos hy, if_neg (by decide), X4_within_eq, b2_some]
      by_cases hz : (0 : Int32) ≤ z ∧ z ≤ 1
      · rw [if_pos hz, if_neg (by decide)]
        obtain ⟨n, n9, en1, en2⟩ : ∃ n, n ≤ 9 ∧ (if (9 : Int32) < nI P then (9 : Int32) else nI P) = nI n ∧ ∀ g : Hp, g.1 24 0 = nI P → (if (9 : Int32) ≤ g.1 24 0 then X5_odds_b53 (nI s) (nI t) z 9 g else X5_odds_b53 (nI s) (nI t) z (g.1 24 0) g) = X5_odds_b53 (nI s) (nI t) z (nI n) g := by
          by_cases c : 9 ≤ P
          · refine ⟨9, Nat.le_refl 9, ?_, fun g eg => ?_⟩
            · by_cases c2 : 9 < P
              · rw [if_pos (show (9 : Int32) < nI P from nI_lt (a := 9) c2 (by omega))]; rfl
              · rw [if_neg (show ¬ (9 : Int32) < nI P from nI_nlt (a := 9) (by omega) (by omega)), show P = 9 by omega]
            · rw [eg, if_pos (show (9 : Int32) ≤ nI P from nI_le (a := 9) c (by omega))]; rfl
          · refine ⟨P, by omega, ?_, fun g eg => ?_⟩
            · rw [if_neg (show ¬ (9 : Int32) < nI P from nI_nlt (a := 9) (by omega) (by omega))]
            · rw [eg, if_neg (show ¬ (9 : Int32) ≤ nI P from nI_ge (b := 9) (by omega) (by omega))]
        obtain ⟨g, xg, eg⟩ := odds_X k (by omega : 1 ≤ s) s2 (by omega : t ≤ 10) n9 z (2 ^ n) 0 (by omega) fu (fu_pos (by have : 2 ^ n ≤ 2 ^ 9 := Nat.pow_le_pow_right (by omega) n9; omega)) h cx
        have cg := xg.fr.cdY k cy
        obtain ⟨g2, f2, e2⟩ := odds_Y k (by omega : 1 ≤ s) s2 (by omega : t ≤ 10) n9 z (2 ^ n) 0 (by omega) fu (fu_pos (by have : 2 ^ n ≤ 2 ^ 9 := Nat.pow_le_pow_right (by omega) n9; omega)) g cg
        have uB : upS (okc L P wd q s) t n (2 ^ n) < 2 ^ 60 := by
          have q1 := upS_le (by omega : t ≤ 10) (okc L P wd q s) n (2 ^ n)
          have q2 : 2 ^ n * 10 ^ n ≤ 2 ^ 9 * 10 ^ 9 := Nat.mul_le_mul (Nat.pow_le_pow_right (by omega) n9) (Nat.pow_le_pow_right (by omega) n9)
          have q3 : (2 : Nat) ^ 9 * 10 ^ 9 < 2 ^ 60 := by decide
          omega
        have dB : 10 ^ n < 2 ^ 60 := Nat.lt_of_le_of_lt (Nat.pow_le_pow_right (n := 10) (by omega) n9) (by decide)
        have d0 : 0 < 10 ^ n := Nat.pow_pos (by omega)
        have ed := down_loop (up := upS (okc L P wd q s) t n (2 ^ n)) n9 z g2 n 0 (by omega) fu (fu_pos (by omega))
        have eG := gcd_loop uB dB z g2 60 (Nat.le_refl _) (upS (okc L P wd q s) t n (2 ^ n)) (10 ^ n) fu uB dB (by omega) (fu_pos (by omega))
        refine ⟨(if z = 0 then lN (upS (okc L P wd q s) t n (2 ^ n) / Nat.gcd (upS (okc L P wd q s) t n (2 ^ n)) (10 ^ n)) else lN (10 ^ n / Nat.gcd (upS (okc L P wd q s) t n (2 ^ n)) (10 ^ n))), g, g2, ?_, ?_, L, P, Z, wd, q, R.fr (xg.fr.tr f2)⟩
        rotate_left
        · rw [isSize5_eq cg, b2_some, if_pos hx, if_neg (by decide), X5_in_eq, b2_some, if_pos hy, if_neg (by decide), X5_in_eq, b2_some, if_pos hz, if_neg (by decide), en2 g cg.2.1]
          unfold X5_odds_b53
          exact (e2.trans ed).trans eG
        · rw [cx.2.1, en1]
          refine Eq.trans eg ?_
          rw [least_eq uB n9, b2_some]
      · refine ⟨-1, h, h, by rw [if_neg hz, if_pos rfl], ?_, L, P, Z, wd, q, R⟩
        rw [isSize5_eq cy, b2_some, if_pos hx, if_neg (by decide), X5_in_eq, b2_some, if_pos hy, if_neg (by decide), X5_in_eq, b2_some, if_neg hz, if_pos rfl]
    · refine ⟨-1, h, h, by rw [if_neg hy, if_pos rfl], ?_, L, P, Z, wd, q, R⟩
      rw [isSize5_eq cy, b2_some, if_pos hx, if_neg (by decide), X5_in_eq, b2_some, if_neg hy, if_pos rfl]
  · refine ⟨-1, h, h, by rw [if_neg hx, if_pos rfl], ?_, L, P, Z, wd, q, R⟩
    rw [isSize5_eq cy, b2_some, if_neg hx, if_pos rfl]
