/-! chains of needs -/
def clr (nd : Nat → Nat) (s : Nat → Bool) : Nat → Nat → Bool
  | 0, _ => true
  | f + 1, w => !s w && (nd w == 99 || clr nd s f (nd w))
def cl (nd : Nat → Nat) (s : Nat → Bool) (w : Nat) : Bool := clr nd s (w + 1) w
theorem clr_st {nd : Nat → Nat} {s : Nat → Bool} {P : Nat} (hn : ∀ w, w < P → nd w < w ∨ nd w = 99) : ∀ w, w < P → ∀ f, w < f → clr nd s f w = cl nd s w := by
  intro w
  induction w using Nat.strongRecOn with
  | _ w ih =>
    intro hw f hf
    obtain ⟨f, rfl⟩ : ∃ z, f = z + 1 := ⟨f - 1, by omega⟩
    unfold cl
    show (!s w && (nd w == 99 || clr nd s f (nd w))) = (!s w && (nd w == 99 || clr nd s w (nd w)))
    rcases hn w hw with h | h
    · rw [ih (nd w) h (by omega) f (by omega), ih (nd w) h (by omega) w h]
    · simp [h]
theorem cl_eq {nd : Nat → Nat} {s : Nat → Bool} {P : Nat} (hn : ∀ w, w < P → nd w < w ∨ nd w = 99) {w : Nat} (hw : w < P) : cl nd s w = (!s w && (nd w == 99 || cl nd s (nd w))) := by
  show (!s w && (nd w == 99 || clr nd s w (nd w))) = _
  rcases hn w hw with h | h
  · rw [clr_st hn (nd w) (by omega) w h]
  · simp [h]
def ch (nd : Nat → Nat) (s : Nat → Bool) (v : Nat) : Bool := v == 99 || cl nd s v
def bi (b : Bool) : Int32 := bif b then 1 else 0
theorem zb_bi (b : Bool) (h : Hp) : zb (bi b) h = some (bi b, h) := by cases b <;> rfl
section
variable {h : Hp} {L P Z : Nat} {wd : Nat → Nat} {q : Nat → Nat → Nat}
theorem Cok.nd (k : Cok L P Z wd q) : ∀ w, w < P → (fun w => q w 2) w < w ∨ (fun w => q w 2) w = 99 := fun w hw => (k.2.2.2.2.2 w hw).2.2.2.1
theorem clear_loop (c : CdY h L P Z wd q) (k : Cok L P Z wd q) {b : Nat} (hb : b < 2 ^ 31) : ∀ n v (is : Bool), (v = 99 ∧ 0 < n) ∨ (v < P ∧ v + 1 < n) → X5_isClear_l22 n (nI b) (bi is) (nI v) h = some (bi (is && ch (fun w => q w 2) b.testBit v), h) := by
  have h10 := k.2.1
  intro n
  induction n with
  | zero => intro v is hv; omega
  | succ n ih =>
    intro v is hv
    rw [X5_isClear_l22_s]
    unfold X5_isClear_b22
    rcases hv with ⟨rfl, -⟩ | ⟨hv, hn⟩
    · rw [if_pos (by decide), zb_bi]
      simp [ch]
    · have hq := k.nd v hv
      have e99 : ¬ nI v = (99 : Int32) := fun e => by have := (nI_eq (a := v) (b := 99) (by omega) (by omega)).mp e; omega
      have e99b : (v == 99) = false := by simp; omega
      have nx : X5_of (nI v) 2 h = some (nI (q v 2), h) := of5_eq (j := 2) c k hv (by omega)
      have hnx : (q v 2 = 99 ∧ 0 < n) ∨ (q v 2 < P ∧ q v 2 + 1 < n) := by
        rcases hq with z | z
        · right; show q v 2 < P ∧ q v 2 + 1 < n; have : q v 2 < v := z; omega
        · left; exact ⟨z, by omega⟩
      have ec : ch (fun w => q w 2) b.testBit v = (!b.testBit v && ch (fun w => q w 2) b.testBit (q v 2)) := by
        unfold ch
        rw [e99b, Bool.false_or, cl_eq k.nd hv]
      rw [if_neg e99, ec]
      unfold X5_isClear_b46 X5_isClear_b47
      cases is with
      | false =>
        rw [if_pos (show bi false = 0 from rfl), nx, b2_some]
        exact ih (q v 2) false hnx
      | true =>
        rw [if_neg (show ¬ bi true = 0 by decide), nI_bit hb (by omega), nx, b2_some]
        cases et : b.testBit v with
        | true =>
          have e1 : b / 2 ^ v % 2 = 1 := (tb_iff b v).mpr et
          rw [e1, if_neg (by decide)]
          exact ih (q v 2) false hnx
        | false =>
          have e1 : b / 2 ^ v % 2 = 0 := (tb_iff0 b v).mpr et
          rw [e1, if_pos (by decide)]
          exact ih (q v 2) true hnx
theorem isClear_eq (c : CdY h L P Z wd q) (k : Cok L P Z wd q) {b w : Nat} (hb : b < 2 ^ 31) (hw : w < P) : X5_isClear (nI w) (nI b) h = some (bi (cl (fun w => q w 2) b.testBit w), h) := by
  have h10 := k.2.1
  have nx : X5_of (nI w) 2 h = some (nI (q w 2), h) := of5_eq (j := 2) c k hw (by omega)
  have hq := k.nd w hw
  have hnx : (q w 2 = 99 ∧ 0 < fu) ∨ (q w 2 < P ∧ q w 2 + 1 < fu) := by
    rw [fu_eq]
    rcases hq with z | z
    · right; have : q w 2 < w := z; omega
    · left; exact ⟨z, by omega⟩
  have ec : cl (fun w => q w 2) b.testBit w = (!b.testBit w && ch (fun w => q w 2) b.testBit (q w 2)) := cl_eq k.nd hw
  unfold X5_isClear X5_isClear_b13
  rw [nI_bit hb (by omega), nx, b2_some, b2_some, ec]
  cases et : b.testBit w with
  | true =>
    rw [(tb_iff b w).mpr et, if_neg (by decide)]
    exact clear_loop c k hb fu (q w 2) false hnx
  | false =>
    rw [(tb_iff0 b w).mpr et, if_pos (by decide)]
    exact clear_loop c k hb fu (q w 2) true hnx
end
/-- bits of the places below m of which f says so -/
def bs (f : Nat → Bool) : Nat → Nat
  | 0 => 0
  | m + 1 => bs f m ||| (bif f m then 2 ^ m else 0)
theorem bs_test (f : Nat → Bool) (m v : Nat) : (bs f m).testBit v = (decide (v < m) && f v) := by
  induction m with
  | zero => simp [bs]
  | succ m ih =>
    show (bs f m ||| (bif f m then 2 ^ m else 0)).testBit v = _
    rw [Nat.testBit_or, ih]
    by_cases e : v = m
    · subst e
      cases f v <;> simp
    · have e2 : decide (v < m + 1) = decide (v < m) := by
        by_cases z : v < m
        · simp [z]; omega
        · simp [z]; omega
      rw [e2]
      cases f m with
      | true => simp [Nat.testBit_two_pow, show ¬ m = v from fun z => e z.symm]
      | false => simp
theorem bs_lt (f : Nat → Bool) (m : Nat) : bs f m < 2 ^ m := by
  induction m with
  | zero => simp [bs]
  | succ m ih =>
    show (bs f m ||| (bif f m then 2 ^ m else 0)) < 2 ^ (m + 1)
    refine Nat.or_lt_two_pow (Nat.lt_trans ih (Nat.pow_lt_pow_right (by omega) (by omega))) ?_
    cases f m with
    | true => exact Nat.pow_lt_pow_right (by omega) (by omega)
    | false => exact Nat.two_pow_pos _
theorem bs_10 (f : Nat → Bool) {m : Nat} (h : m ≤ 10) : bs f m < 1024 := Nat.lt_of_lt_of_le (bs_lt f m) (Nat.pow_le_pow_right (n := 2) (by omega) h)
section
variable {h : Hp} {L P Z : Nat} {wd : Nat → Nat} {q : Nat → Nat → Nat}
theorem sense5_loop (c : CdY h L P Z wd q) (k : Cok L P Z wd q) {N b : Nat} (hN : N ≤ P) (e0 : h.1 27 0 = nI N) (e4 : h.1 27 4 = nI b) (hb : b < 1024) : ∀ d w, w + d = N → ∀ n, d < n → X5_sense_l4 n (nI (bs (cl (fun w => q w 2) b.testBit) w)) (nI w) h = some (nI (bs (cl (fun w => q w 2) b.testBit) N), h) := by
  have h10 := k.2.1
  intro d
  induction d with
  | zero =>
    intro w hw n hn
    obtain ⟨n, rfl⟩ : ∃ z, n = z + 1 := ⟨n - 1, by omega⟩
    have : w = N := by omega
    subst this
    rw [X5_sense_l4_s]
    unfold X5_sense_b4
    rw [e0, if_pos (Int32.le_refl _)]
  | succ d ih =>
    intro w hw n hn
    obtain ⟨n, rfl⟩ : ∃ z, n = z + 1 := ⟨n - 1, by omega⟩
    rw [X5_sense_l4_s]
    unfold X5_sense_b4
    rw [e0, if_neg (nI_ge (by omega) (by omega)), e4, isClear_eq c k (by omega) (by omega), b2_some]
    have ih2 := ih (w + 1) (by omega) n (by omega)
    unfold X5_sense_b36
    cases et : cl (fun w => q w 2) b.testBit w with
    | true =>
      rw [if_neg (by decide), nI_shl (by omega), nI_or, i1, nI_add]
      have : bs (cl (fun w => q w 2) b.testBit) (w + 1) = bs (cl (fun w => q w 2) b.testBit) w ||| 2 ^ w := by show (_ ||| _) = _; rw [et]; rfl
      rw [← this]
      exact ih2
    | false =>
      rw [if_pos (show bi false = 0 from rfl), i0, nI_or, i1, nI_add]
      have : bs (cl (fun w => q w 2) b.testBit) (w + 1) = bs (cl (fun w => q w 2) b.testBit) w ||| 0 := by show (_ ||| _) = _; rw [et]; rfl
      rw [← this]
      exact ih2
theorem sense5_eq (c : CdY h L P Z wd q) (k : Cok L P Z wd q) {N b : Nat} (hN : N ≤ P) (e0 : h.1 27 0 = nI N) (e4 : h.1 27 4 = nI b) (hb : b < 1024) : X5_sense h = some (nI (bs (cl (fun w => q w 2) b.testBit) N), h) := by
  have h10 := k.2.1
  exact sense5_loop c k hN e0 e4 hb N 0 (by omega) fu (fu_pos (by omega))
theorem sense4_loop (c : CdX h L P Z wd q) (k : Cok L P Z wd q) {N b : Nat} (hN : N ≤ P) (e0 : h.1 12 1 = nI N) (e4 : h.1 12 5 = nI b) (hb : b < 1024) : ∀ d w, w + d = N → ∀ n, d < n → X4_makingSense_l4 n (nI (bs (cl (fun w => q w 2) b.testBit) w)) (nI w) h = some (nI (bs (cl (fun w => q w 2) b.testBit) N), h) := by
  have h10 := k.2.1
  intro d
  induction d with
  | zero =>
    intro w hw n hn
    obtain ⟨n, rfl⟩ : ∃ z, n = z + 1 := ⟨n - 1, by omega⟩
    have : w = N := by omega
    subst this
    rw [X4_makingSense_l4_s]
    unfold X4_makingSense_b4
    rw [e0, if_pos (Int32.le_refl _)]
  | succ d ih =>
    intro w hw n hn
    obtain ⟨n, rfl⟩ : ∃ z, n = z + 1 := ⟨n - 1, by omega⟩
    have ih2 := ih (w + 1) (by omega) n (by omega)
    have hwP : w < P := by omega
    have hq := k.nd w hwP
    have lt := bs_10 (cl (fun w => q w 2) b.testBit) (m := w) (by omega)
    have en : X3_of (nI w) 2 h = some (nI (q w 2), h) := of_eq (j := 2) c k hwP (by omega)
    have ec := cl_eq (s := b.testBit) k.nd hwP
    have go1 : ∀ t : Int32, t = 0 ∨ t = 1 → X4_makingSense_b48 (X4_makingSense_l4 n) (nI (bs (cl (fun w => q w 2) b.testBit) w)) (nI w) t h = (if b.testBit w = false ∧ t = 1 then X4_makingSense_l4 n (nI (bs (cl (fun w => q w 2) b.testBit) w ||| 2 ^ w)) (nI (w + 1)) h else X4_makingSense_l4 n (nI (bs (cl (fun w => q w 2) b.testBit) w ||| 0)) (nI (w + 1)) h) := by
      intro t ht
      unfold X4_makingSense_b48 X4_makingSense_b73
      rw [e4, bit_nI h (by omega) (by omega), b2_some]
      cases et : b.testBit w with
      | true =>
        rw [(tb_iff b w).mpr et, if_neg (by decide), i1, nI_add, if_neg (by simp), Nat.or_zero]
      | false =>
        rw [(tb_iff0 b w).mpr et, if_pos (by decide), nI_shl (by omega), nI_or, i1, nI_add]
        rcases ht with rfl | rfl
        · rw [if_pos rfl, if_neg (fun z => by have := z.2; exact absurd this (by decide)), Nat.or_zero]
        · rw [if_neg (by decide), if_pos ⟨rfl, rfl⟩]
    have fin : ∀ t : Bool, cl (fun w => q w 2) b.testBit w = (!b.testBit w && t) → X4_makingSense_b48 (X4_makingSense_l4 n) (nI (bs (cl (fun w => q w 2) b.testBit) w)) (nI w) (bi t) h = some (nI (bs (cl (fun w => q w 2) b.testBit) N), h) := by
      intro t et
      rw [go1 (bi t) (by cases t; exact Or.inl rfl; exact Or.inr rfl)]
      have hs : bs (cl (fun w => q w 2) b.testBit) (w + 1) = bs (cl (fun w => q w 2) b.testBit) w ||| (bif cl (fun w => q w 2) b.testBit w then 2 ^ w else 0) := rfl
      by_cases z : b.testBit w = false ∧ bi t = 1
      · rw [if_pos z]
        have tt : t = true := by cases t with | true => rfl | false => exact absurd z.2 (by decide)
        rw [et, z.1, tt] at hs
        rw [show (bif (!false && true) then 2 ^ w else 0) = 2 ^ w from rfl] at hs
        rw [← hs]
        exact ih2
      · rw [if_neg z]
        have : (!b.testBit w && t) = false := by
          cases hb1 : b.testBit w with
          | true => rfl
          | false =>
            cases t with
            | true => exact absurd ⟨hb1, rfl⟩ z
            | false => rfl
        rw [et, this] at hs
        rw [show (bif false then 2 ^ w else 0) = 0 from rfl] at hs
        rw [← hs]
        exact ih2
    rw [X4_makingSense_l4_s]
    unfold X4_makingSense_b4
    rw [e0, if_neg (nI_ge (by omega) (by omega)), needsAny_eq c k hwP, b2_some]
    unfold X4_makingSense_b43
    by_cases e99 : q w 2 = 99
    · rw [if_pos e99, if_pos rfl]
      refine fin true ?_
      rw [ec]
      simp [e99]
    · have hlt : q w 2 < w := by rcases hq with z | z; exact z; exact absurd z e99
      rw [if_neg e99, if_neg (by decide), en, b2_some, bit_nI h (by omega) (by omega), b2_some]
      have et := bs_test (cl (fun w => q w 2) b.testBit) w (q w 2)
      rw [show decide (q w 2 < w) = true by simpa using hlt, Bool.true_and] at et
      have ec2 : cl (fun w => q w 2) b.testBit w = (!b.testBit w && cl (fun w => q w 2) b.testBit (q w 2)) := by
        rw [ec]
        show (!b.testBit w && (q w 2 == 99 || cl (fun w => q w 2) b.testBit (q w 2))) = _
        rw [show (q w 2 == 99) = false by simpa using e99, Bool.false_or]
      cases ed : cl (fun w => q w 2) b.testBit (q w 2) with
      | true =>
        rw [ed] at et ec2
        rw [(tb_iff _ _).mpr et, if_pos (by decide)]
        exact fin true ec2
      | false =>
        rw [ed] at et ec2
        rw [(tb_iff0 _ _).mpr et, if_neg (by decide)]
        exact fin false ec2
theorem sense4_eq (c : CdX h L P Z wd q) (k : Cok L P Z wd q) {N b : Nat} (hN : N ≤ P) (e0 : h.1 12 1 = nI N) (e4 : h.1 12 5 = nI b) (hb : b < 1024) : X4_makingSense h = some (nI (bs (cl (fun w => q w 2) b.testBit) N), h) := by
  have h10 := k.2.1
  exact sense4_loop c k hN e0 e4 hb N 0 (by omega) fu (fu_pos (by omega))
/-! sums over sets -/
def sm (q : Nat → Nat → Nat) (b j : Nat) : Nat → Nat
  | 0 => 0
  | w + 1 => sm q b j w + b / 2 ^ w % 2 * q w j
theorem sum4_loop (c : CdX h L P Z wd q) (k : Cok L P Z wd q) {b j : Nat} (hb : b < 2 ^ 31) (hj : j < 5) : ∀ d w, w + d = P → ∀ n, d < n → X3_sum_l5 n (nI b) (nI j) (nI (sm q b j w)) (nI w) h = some (nI (sm q b j P), h) := by
  have h10 := k.2.1
  intro d
  induction d with
  | zero =>
    intro w hw n hn
    obtain ⟨n, rfl⟩ : ∃ z, n = z + 1 := ⟨n - 1, by omega⟩
    have : w = P := by omega
    subst this
    rw [X3_sum_l5_s]
    unfold X3_sum_b5
    rw [c.2.1, if_pos (Int32.le_refl _)]
  | succ d ih =>
    intro w hw n hn
    obtain ⟨n, rfl⟩ : ∃ z, n = z + 1 := ⟨n - 1, by omega⟩
    have ih2 := ih (w + 1) (by omega) n (by omega)
    rw [X3_sum_l5_s]
    unfold X3_sum_b5 X3_sum_b34
    rw [c.2.1, if_neg (nI_ge (by omega) (by omega)), bit_nI h hb (by omega), b2_some]
    have m2 : b / 2 ^ w % 2 = 0 ∨ b / 2 ^ w % 2 = 1 := by omega
    rcases m2 with e | e
    · rw [e, if_neg (by decide), i1, nI_add]
      have : sm q b j (w + 1) = sm q b j w := by show _ + b / 2 ^ w % 2 * q w j = _; rw [e, Nat.zero_mul, Nat.add_zero]
      rw [← this]
      exact ih2
    · rw [e, if_pos (by decide), of_eq c k (by omega) hj, b2_some, nI_add, i1, nI_add]
      have : sm q b j (w + 1) = sm q b j w + q w j := by show _ + b / 2 ^ w % 2 * q w j = _; rw [e, Nat.one_mul]
      rw [← this]
      exact ih2
theorem sum4_eq (c : CdX h L P Z wd q) (k : Cok L P Z wd q) {b j : Nat} (hb : b < 2 ^ 31) (hj : j < 5) : X3_sum (nI b) (nI j) h = some (nI (sm q b j P), h) := by
  have h10 := k.2.1
  exact sum4_loop c k hb hj P 0 (by omega) fu (fu_pos (by omega))
theorem sum5_loop (c : CdY h L P Z wd q) (k : Cok L P Z wd q) {b j : Nat} (hb : b < 2 ^ 31) (hj : j < 5) : ∀ d w, w + d = P → ∀ n, d < n → X5_sumOf_l5 n (nI b) (nI j) (nI (sm q b j w)) (nI w) h = some (nI (sm q b j P), h) := by
  have h10 := k.2.1
  intro d
  induction d with
  | zero =>
    intro w hw n hn
    obtain ⟨n, rfl⟩ : ∃ z, n = z + 1 := ⟨n - 1, by omega⟩
    have : w = P := by omega
    subst this
    rw [X5_sumOf_l5_s]
    unfold X5_sumOf_b5
    rw [c.2.1, if_pos (Int32.le_refl _)]
  | succ d ih =>
    intro w hw n hn
    obtain ⟨n, rfl⟩ : ∃ z, n = z + 1 := ⟨n - 1, by omega⟩
    have ih2 := ih (w + 1) (by omega) n (by omega)
    rw [X5_sumOf_l5_s]
    unfold X5_sumOf_b5
    rw [c.2.1, if_neg (nI_ge (by omega) (by omega)), of5_eq c k (by omega) hj, b2_some, nI_bit hb (by omega), pk_mul, nI_add, i1, nI_add]
    exact ih2
theorem sum5_eq (c : CdY h L P Z wd q) (k : Cok L P Z wd q) {b j : Nat} (hb : b < 2 ^ 31) (hj : j < 5) : X5_sumOf (nI b) (nI j) h = some (nI (sm q b j P), h) := by
  have h10 := k.2.1
  exact sum5_loop c k hb hj P 0 (by omega) fu (fu_pos (by omega))
end
theorem ok_now (x : Int32) : OK (X4_now x) (X5_now x) := by
  intro h ⟨L, P, Z, wd, q, R⟩
  obtain ⟨n, l, z, b, k, c⟩ := R.cur
  obtain ⟨c1, c2, c3, c4, c5, c6, c7, c8, c9, c10, c11⟩ := id c
  have h10 := R.1.2.1
  have s4 := sense4_eq R.2.1 R.1 c1 c6.2 c10.2 c4
  have s5 := sense5_eq R.2.2.1 R.1 c1 c6.1 c10.1 c4
  have lt := bs_10 (cl (fun w => q w 2) b.testBit) (m := n) (by omega)
  suffices H : ∃ r, X4_now x h = some (r, h) ∧ X5_now x h = some (r, h) by
    obtain ⟨r, e1, e2⟩ := H
    exact ⟨r, h, h, e1, e2, L, P, Z, wd, q, R⟩
  unfold X4_now X5_now
  by_cases a0 : x = 0
  · subst a0
    refine ⟨nI n, by rw [if_pos rfl, c6.2], ?_⟩
    rw [if_pos rfl, show ld h 27 198 0 = some (h.1 27 0) from ld_nI (j := 0) (by omega) (by omega), bind_some', c6.1]
  rw [if_neg a0, if_neg a0]
  by_cases a1 : x = 1
  · subst a1
    refine ⟨nI l, by rw [if_pos rfl, c7.2], ?_⟩
    rw [if_pos rfl, show ld h 27 198 1 = some (h.1 27 1) from ld_nI (j := 1) (by omega) (by omega), bind_some', c7.1]
  rw [if_neg a1, if_neg a1]
  by_cases a2 : x = 2
  · subst a2
    refine ⟨h.1 27 2, by rw [if_pos rfl, c8], ?_⟩
    rw [if_pos rfl, show ld h 27 198 2 = some (h.1 27 2) from ld_nI (j := 2) (by omega) (by omega), bind_some']
  rw [if_neg a2, if_neg a2]
  by_cases a3 : x = 3
  · subst a3
    refine ⟨nI z, by rw [if_pos rfl, c9.2], ?_⟩
    rw [if_pos rfl, show ld h 27 198 3 = some (h.1 27 3) from ld_nI (j := 3) (by omega) (by omega), bind_some', c9.1]
  rw [if_neg a3, if_neg a3]
  by_cases a4 : x = 4
  · subst a4
    refine ⟨nI b, by rw [if_pos rfl, c10.2], ?_⟩
    rw [if_pos rfl, show ld h 27 198 4 = some (h.1 27 4) from ld_nI (j := 4) (by omega) (by omega), bind_some', c10.1]
  rw [if_neg a4, if_neg a4]
  by_cases a5 : x = 5
  · subst a5
    exact ⟨_, by rw [if_pos rfl, s4, b2_some], by rw [if_pos rfl, s5, b2_some]⟩
  rw [if_neg a5, if_neg a5]
  by_cases a6 : x = 6
  · subst a6
    refine ⟨_, by rw [if_pos rfl, s4, b2_some, i1, sum4_eq R.2.1 R.1 (by omega) (by omega), b2_some], ?_⟩
    rw [if_pos rfl, s5, b2_some, i1, sum5_eq R.2.2.1 R.1 (by omega) (by omega), b2_some]
  rw [if_neg a6, if_neg a6]
  exact ⟨_, rfl, rfl⟩
