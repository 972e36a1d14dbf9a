/-! two cards -/
def pf (f : Nat → Bool) : Nat → Nat
  | 0 => 0
  | m + 1 => pf f m + (f m).toNat
theorem pf_congr {f g : Nat → Bool} : ∀ {m : Nat}, (∀ v, v < m → f v = g v) → pf f m = pf g m := by
  intro m
  induction m with
  | zero => intro _; rfl
  | succ m ih =>
    intro e
    show pf f m + _ = pf g m + _
    rw [ih (fun v hv => e v (by omega)), e m (by omega)]
theorem pf_grow {f : Nat → Bool} {a : Nat} (hf : ∀ v, a ≤ v → f v = false) : ∀ d, pf f (a + d) = pf f a := by
  intro d
  induction d with
  | zero => rfl
  | succ d ih =>
    show pf f (a + d) + (f (a + d)).toNat = _
    rw [ih, hf (a + d) (by omega)]
    rfl
theorem pop_pf (b m : Nat) : pop b m = pf b.testBit m := by
  induction m with
  | zero => rfl
  | succ m ih =>
    show pop b m + b / 2 ^ m % 2 = pf b.testBit m + (b.testBit m).toNat
    rw [ih]
    cases e : b.testBit m with
    | true => rw [(tb_iff b m).mpr e]; rfl
    | false => rw [(tb_iff0 b m).mpr e]; rfl
section
variable {h : Hp} {L P Z : Nat} {wd : Nat → Nat} {q : Nat → Nat → Nat}
/-- which of the second card make no sense as yet -/
def bad (q : Nat → Nat → Nat) (i w : Nat) : Bool := decide (i ≤ w) && !cl (fun w => q w 2) (2 ^ i - 1).testBit w
theorem two5_loop (c : CdY h L P Z wd q) (k : Cok L P Z wd q) {i : Nat} (hi : i ≤ 10) : ∀ d w, w + d = P → i ≤ w → ∀ n, d < n → X5_two_l27 n (nI (2 ^ i - 1)) (nI (pf (bad q i) w)) (nI w) h = some (nI (pf (bad q i) P), h) := by
  have h10 := k.2.1
  have hb : 2 ^ i - 1 < 2 ^ 31 := by
    have : 2 ^ i ≤ 2 ^ 10 := Nat.pow_le_pow_right (by omega) hi
    omega
  intro d
  induction d with
  | zero =>
    intro w hw _ n hn
    obtain ⟨n, rfl⟩ : ∃ z, n = z + 1 := ⟨n - 1, by omega⟩
    have : w = P := by omega
    subst this
    rw [X5_two_l27_s]
    unfold X5_two_b27
    rw [c.2.1, if_pos (Int32.le_refl _)]
  | succ d ih =>
    intro w hw hiw n hn
    obtain ⟨n, rfl⟩ : ∃ z, n = z + 1 := ⟨n - 1, by omega⟩
    have ih2 := ih (w + 1) (by omega) (by omega) n (by omega)
    rw [X5_two_l27_s]
    unfold X5_two_b27 X5_two_b54
    rw [c.2.1, if_neg (nI_ge (by omega) (by omega)), isClear_eq c k hb (by omega), b2_some]
    have hs : pf (bad q i) (w + 1) = pf (bad q i) w + (!cl (fun w => q w 2) (2 ^ i - 1).testBit w).toNat := by
      show pf (bad q i) w + (decide (i ≤ w) && _).toNat = _
      rw [show decide (i ≤ w) = true by simpa using hiw, Bool.true_and]
    cases et : cl (fun w => q w 2) (2 ^ i - 1).testBit w with
    | true =>
      rw [if_neg (show ¬ bi true = 0 by decide), i0, nI_add, i1, nI_add]
      rw [et] at hs
      rw [show pf (bad q i) w + 0 = pf (bad q i) (w + 1) from hs.symm]
      exact ih2
    | false =>
      rw [if_pos (show bi false = 0 from rfl), i1, nI_add, nI_add]
      rw [et] at hs
      rw [show pf (bad q i) w + 1 = pf (bad q i) (w + 1) from hs.symm]
      exact ih2
theorem bad_eq (k : Cok L P Z wd q) {i w : Nat} (hw : w < P) (hi : i ≤ w) : bad q i w = (!(q w 2 == 99) && (decide (q w 2 < i) || bad q i (q w 2))) := by
  have hw0 : (2 ^ i - 1).testBit w = false := by rw [Nat.testBit_two_pow_sub_one]; simpa using hi
  unfold bad
  rw [show decide (i ≤ w) = true by simpa using hi, Bool.true_and, cl_eq k.nd hw, hw0]
  show (!(!false && (q w 2 == 99 || cl (fun w => q w 2) (2 ^ i - 1).testBit (q w 2)))) = _
  by_cases e99 : q w 2 = 99
  · simp [e99]
  · have hlt : q w 2 < w := by rcases k.nd w hw with z | z; exact z; exact absurd z e99
    rw [show (q w 2 == 99) = false by simpa using e99]
    by_cases h1 : q w 2 < i
    · have : cl (fun w => q w 2) (2 ^ i - 1).testBit (q w 2) = false := by
        rw [cl_eq k.nd (show q w 2 < P by omega), Nat.testBit_two_pow_sub_one]
        simp [h1]
      rw [this]
      simp [h1]
    · simp [h1, show i ≤ q w 2 by omega]
theorem two4_loop (c : CdX h L P Z wd q) (k : Cok L P Z wd q) {i : Nat} (hi : i ≤ 10) : ∀ d w, w + d = P → i ≤ w → ∀ n, d < n → X4_two_l21 n (nI i) (nI (bs (bad q i) w)) (nI w) h = some (nI (pop (bs (bad q i) P) 10), h) := by
  have h10 := k.2.1
  intro d
  induction d with
  | zero =>
    intro w hw _ n hn
    obtain ⟨n, rfl⟩ : ∃ z, n = z + 1 := ⟨n - 1, by omega⟩
    have : w = P := by omega
    subst this
    rw [X4_two_l21_s]
    unfold X4_two_b21
    rw [c.2.1, if_pos (Int32.le_refl _), bitCount_eq (bs_10 _ (by omega)), b2_some]
  | succ d ih =>
    intro w hw hiw n hn
    obtain ⟨n, rfl⟩ : ∃ z, n = z + 1 := ⟨n - 1, by omega⟩
    have ih2 := ih (w + 1) (by omega) (by omega) n (by omega)
    have hwP : w < P := by omega
    have lt := bs_10 (bad q i) (m := w) (by omega)
    have en : X3_of (nI w) 2 h = some (nI (q w 2), h) := of_eq (j := 2) c k hwP (by omega)
    have hs : bs (bad q i) (w + 1) = bs (bad q i) w ||| (bif bad q i w then 2 ^ w else 0) := rfl
    have eb := bad_eq k hwP hiw
    have yes : bad q i w = true → X4_two_b70 (X4_two_l21 n) (nI i) (nI (bs (bad q i) w)) (nI w) h = some (nI (pop (bs (bad q i) P) 10), h) := by
      intro e
      unfold X4_two_b70 X4_two_b76
      rw [nI_shl (by omega), nI_or, i1, nI_add]
      rw [e] at hs
      rw [show bs (bad q i) w ||| 2 ^ w = bs (bad q i) (w + 1) from hs.symm]
      exact ih2
    have no : bad q i w = false → X4_two_b76 (X4_two_l21 n) (nI i) (nI (bs (bad q i) w)) (nI w) h = some (nI (pop (bs (bad q i) P) 10), h) := by
      intro e
      unfold X4_two_b76
      rw [i1, nI_add]
      rw [e, show (bif false then 2 ^ w else 0) = 0 from rfl, Nat.or_zero] at hs
      rw [← hs]
      exact ih2
    rw [X4_two_l21_s]
    unfold X4_two_b21
    rw [c.2.1, if_neg (nI_ge (by omega) (by omega)), en, b2_some, needsAny_eq c k hwP, b2_some]
    by_cases e99 : q w 2 = 99
    · rw [if_pos e99, if_pos rfl]
      refine no ?_
      rw [eb]
      simp [e99]
    · have hlt : q w 2 < w := by rcases k.nd w hwP with z | z; exact z; exact absurd z e99
      rw [if_neg e99, if_neg (by decide)]
      by_cases h1 : q w 2 < i
      · rw [if_pos (nI_lt h1 (by omega))]
        refine yes ?_
        rw [eb]
        simp [e99, h1]
      · rw [if_neg (nI_nlt (by omega) (by omega)), bit_nI h (by omega) (by omega), b2_some]
        have et := bs_test (bad q i) w (q w 2)
        rw [show decide (q w 2 < w) = true by simpa using hlt, Bool.true_and] at et
        cases ed : bad q i (q w 2) with
        | true =>
          rw [ed] at et
          rw [(tb_iff _ _).mpr et, if_pos (by decide)]
          refine yes ?_
          rw [eb, ed]
          simp [e99]
        | false =>
          rw [ed] at et
          rw [(tb_iff0 _ _).mpr et, if_neg (by decide)]
          refine no ?_
          rw [eb, ed]
          simp [h1]
end
theorem inP {x : Int32} {n : Nat} (hn : n < 2 ^ 30) (hx : (0 : Int32) ≤ x ∧ x ≤ nI n) : ∃ j : Nat, j ≤ n ∧ x = nI j := by
  have h := (ix_iff (x := x) (n := n + 1) (by omega)).mp (by rw [nI_pred]; exact hx)
  obtain ⟨j, hj, e⟩ := ix_of h (by omega)
  exact ⟨j, by omega, e⟩
theorem ok_two (x : Int32) : OK (X4_two x) (X5_two x) := by
  intro h ⟨L, P, Z, wd, q, R⟩
  have h10 := R.1.2.1
  unfold X4_two X5_two
  rw [X4_within_eq, b2_some, R.2.1.2.1]
  by_cases hx : (0 : Int32) ≤ x ∧ x ≤ nI P
  · obtain ⟨i, hi, rfl⟩ := inP (by omega) hx
    refine ⟨nI (pf (bad q i) P), h, h, ?_, ?_, L, P, Z, wd, q, R⟩
    · rw [if_pos hx, if_neg (by decide)]
      have e := two4_loop R.2.1 R.1 (i := i) (by omega) (P - i) i (by omega) (by omega) fu (fu_pos (by omega))
      have e0 : bs (bad q i) i = 0 := by
        have : ∀ m, m ≤ i → bs (bad q i) m = 0 := by
          intro m
          induction m with
          | zero => intro _; rfl
          | succ m ih =>
            intro hm
            show bs (bad q i) m ||| (bif bad q i m then 2 ^ m else 0) = 0
            rw [ih (by omega)]
            have : bad q i m = false := by unfold bad; rw [show decide (i ≤ m) = false by simp; omega]; rfl
            rw [this]; simp
        exact this i (by omega)
      rw [e0] at e
      rw [i0, e, pop_pf]
      have e1 : pf (bs (bad q i) P).testBit 10 = pf (bs (bad q i) P).testBit P := by
        have := pf_grow (f := (bs (bad q i) P).testBit) (a := P) (fun v hv => by rw [bs_test, show decide (v < P) = false by simp; omega]; rfl) (10 - P)
        rw [show P + (10 - P) = 10 by omega] at this
        exact this
      rw [e1, pf_congr (g := bad q i) (fun v hv => by rw [bs_test, show decide (v < P) = true by simpa using hv, Bool.true_and])]
    · rw [X5_in_eq, b2_some, R.2.2.1.2.1, if_pos hx, if_neg (by decide), nI_shl (by omega), i1, pk_sub (Nat.one_le_two_pow)]
      have e := two5_loop R.2.2.1 R.1 (i := i) (by omega) (P - i) i (by omega) (by omega) fu (fu_pos (by omega))
      have e0 : pf (bad q i) i = 0 := by
        have : ∀ m, m ≤ i → pf (bad q i) m = 0 := by
          intro m
          induction m with
          | zero => intro _; rfl
          | succ m ih =>
            intro hm
            show pf (bad q i) m + (bad q i m).toNat = 0
            rw [ih (by omega)]
            have : bad q i m = false := by unfold bad; rw [show decide (i ≤ m) = false by simp; omega]; rfl
            rw [this]; rfl
        exact this i (by omega)
      rw [e0] at e
      exact e
  · refine ⟨-1, h, h, by rw [if_neg hx, if_pos rfl], ?_, L, P, Z, wd, q, R⟩
    rw [X5_in_eq, b2_some, R.2.2.1.2.1, if_neg hx, if_pos rfl]
