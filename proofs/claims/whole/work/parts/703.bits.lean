/-! bits of whole numbers -/
theorem sl32 : ∀ n, n < 32 → ((nI n &&& 31).toBitVec.smod 32).toNat = n := by decide +kernel
theorem nI_or (a b : Nat) : nI a ||| nI b = nI (a ||| b) := by
  apply Int32.toBitVec_inj.1
  show BitVec.ofNat 32 a ||| BitVec.ofNat 32 b = BitVec.ofNat 32 (a ||| b)
  apply BitVec.eq_of_getLsbD_eq
  intro i hi
  simp [hi]
theorem nI_bit {b k : Nat} (hb : b < 2 ^ 31) (hk : k < 32) : (nI b >>> (nI k &&& 31)) &&& 1 = nI (b / 2 ^ k % 2) := by
  rw [pk_shrN hb _ k (sl32 k hk)]
  have : b / 2 ^ k < 2 ^ 32 := Nat.lt_of_le_of_lt (Nat.div_le_self b (2 ^ k)) (by omega)
  exact pk_andN this 1 (by decide)
theorem nI_shl {k : Nat} (hk : k < 31) : (1 : Int32) <<< (nI k &&& 31) = nI (2 ^ k) := by
  have h2 : 1 * 2 ^ k < 2 ^ 32 := by
    rw [Nat.one_mul]
    exact Nat.pow_lt_pow_right (by omega) (by omega)
  have := pk_shlN (n := 1) (nI k &&& 31) k (sl32 k (by omega)) h2
  rw [Nat.one_mul] at this
  exact this
theorem bit_nI {b k : Nat} (h : Hp) (hb : b < 2 ^ 31) (hk : k < 32) : X4_bit (nI b) (nI k) h = some (nI (b / 2 ^ k % 2), h) := by rw [bit_eq, nI_bit hb hk]
theorem tb_iff (b k : Nat) : b / 2 ^ k % 2 = 1 ↔ b.testBit k = true := by
  rw [Nat.testBit_eq_decide_div_mod_eq]; simp
theorem tb_iff0 (b k : Nat) : b / 2 ^ k % 2 = 0 ↔ b.testBit k = false := by
  rw [Nat.testBit_eq_decide_div_mod_eq]
  simp
/-- how many of the first m bits -/
def pop (b : Nat) : Nat → Nat
  | 0 => 0
  | m + 1 => pop b m + b / 2 ^ m % 2
theorem pop_le (b m : Nat) : pop b m ≤ m := by
  induction m with
  | zero => exact Nat.le_refl 0
  | succ m ih => show pop b m + b / 2 ^ m % 2 ≤ m + 1; omega
theorem many_loop {b : Nat} (hb : b < 1024) (h : Hp) : ∀ d i, i + d = 10 → ∀ n, d < n → X5_manyOf_l4 n (nI b) (nI (pop b i)) (nI i) h = some (nI (pop b 10), h) := by
  intro d
  induction d with
  | zero =>
    intro i hi n hn
    obtain ⟨n, rfl⟩ : ∃ z, n = z + 1 := ⟨n - 1, by omega⟩
    have : i = 10 := by omega
    subst this
    rw [X5_manyOf_l4_s]
    unfold X5_manyOf_b4
    rw [if_pos (by decide)]
  | succ d ih =>
    intro i hi n hn
    obtain ⟨n, rfl⟩ : ∃ z, n = z + 1 := ⟨n - 1, by omega⟩
    rw [X5_manyOf_l4_s]
    unfold X5_manyOf_b4
    rw [if_neg (show ¬ (10 : Int32) ≤ nI i from nI_ge (b := 10) (by omega) (by omega)), nI_bit (by omega) (by omega), i1, nI_add, nI_add]
    exact ih (i + 1) (by omega) n (by omega)
theorem manyOf_eq {b : Nat} (hb : b < 1024) (h : Hp) : X5_manyOf (nI b) h = some (nI (pop b 10), h) := many_loop hb h 10 0 rfl fu (fu_pos (by omega))
def sr (x : Int32) (k : Int32) : Int32 := (x.toUInt32 >>> (k.toUInt32 &&& Int32.toUInt32 31)).toInt32
def bc1 (x : Int32) : Int32 := x - (sr x 1 &&& 1431655765)
def bc2 (x : Int32) : Int32 := (x &&& 858993459) + (sr x 2 &&& 858993459)
def bc3 (x : Int32) : Int32 := (x + sr x 4) &&& 252645135
def bc4 (x : Int32) : Int32 := x + sr x 8
def bc5 (x : Int32) : Int32 := (x + sr x 16) &&& 63
def bcF (x : Int32) : Int32 := bc5 (bc4 (bc3 (bc2 (bc1 x))))
theorem bc_is (x0 : Int32) (h : Hp) : J6_bitCount_0f7a4 x0 h = some (bcF x0, h) := rfl
theorem bc_tab : ∀ b, b < 1024 → bcF (nI b) = nI (pop b 10) := by decide +kernel
theorem bitCount_eq {b : Nat} (hb : b < 1024) (h : Hp) : J6_bitCount_0f7a4 (nI b) h = some (nI (pop b 10), h) := by rw [bc_is, bc_tab b hb]
