/-! the law's loop -/
theorem stepI {f g : Hp → Option (Int32 × Hp)} (ok : OK f g) {h : Hp} (R : Rel h) (K : Hp → Option (Int32 × Hp)) : ∃ h2, Rel h2 ∧ (b2 (f h) fun v h1 => b2 (g h1) fun w h2 => if v = w then K h2 else some (0, h2)) = K h2 := by
  obtain ⟨r, h1, h2, e1, e2, R2⟩ := ok h R
  refine ⟨h2, R2, ?_⟩
  rw [e1, b2_some, e2, b2_some, if_pos rfl]
theorem lg_rf (x : Int64) : lg_cmp x x = 0 := by
  unfold lg_cmp
  rw [if_neg (show ¬ x > x from Int64.lt_irrefl), if_pos rfl]
theorem stepL {f g : Hp → Option (Int64 × Hp)} (ok : OK f g) {h : Hp} (R : Rel h) (K : Hp → Option (Int32 × Hp)) : ∃ h2, Rel h2 ∧ (b2 (f h) fun v h1 => b2 (g h1) fun w h2 => if lg_cmp v w = 0 then K h2 else some (0, h2)) = K h2 := by
  obtain ⟨r, h1, h2, e1, e2, R2⟩ := ok h R
  refine ⟨h2, R2, ?_⟩
  rw [e1, b2_some, e2, b2_some, if_pos (lg_rf r)]
theorem lsc_nI {xs : Nat → Int32} {L j : Nat} (hj : j < L) (hL : L ≤ 256) : lsc xs L (nI j) = some (xs j) := by
  unfold lsc
  rw [if_neg (nI_in hj (by omega)), nI_clamp (by omega)]
theorem law_body {xs : Nat → Int32} {L i : Nat} (hL : L ≤ 256) (hi : i + 4 ≤ L) (K : Int32 → Hp → Option (Int32 × Hp)) {h : Hp} (R : Rel h) : ∃ h2, Rel h2 ∧ LW_b18 xs L K (nI i) h = K (nI (i + 4)) h2 := by
  have ls0 : lsc xs L (nI i) = some (xs i) := lsc_nI (by omega) hL
  have ls1 : lsc xs L (nI i + 1) = some (xs (i + 1)) := by rw [i1, nI_add]; exact lsc_nI (by omega) hL
  have ls2 : lsc xs L (nI i + 2) = some (xs (i + 2)) := by rw [i2, nI_add]; exact lsc_nI (by omega) hL
  have ls3 : lsc xs L (nI i + 3) = some (xs (i + 3)) := by rw [i3, nI_add]; exact lsc_nI (by omega) hL
  have e4 : nI i + (4 : Int32) = nI (i + 4) := by rw [i4, nI_add]
  have ex : ¬ (Int32.ofNat L - (4 : Int32)) < nI i := by
    show ¬ nI L - 4 < nI i
    rw [i4, pk_sub (by omega)]
    exact nI_nlt (by omega) (by omega)
  unfold LW_b18
  rw [if_neg ex, ls0, bind_some']
  unfold LW_b813
  rw [e4]
  by_cases c0 : xs i &&& 31 = 0
  · rw [if_pos c0]
    simp only [ls1, bind_some']
    exact stepI (ok_type (xs (i + 1))) R (K (nI (i + 4)))
  rw [if_neg c0]
  by_cases c1 : xs i &&& 31 = 1
  · rw [if_pos c1]
    exact stepI ok_clear R (K (nI (i + 4)))
  rw [if_neg c1]
  by_cases c2 : xs i &&& 31 = 2
  · rw [if_pos c2]
    exact stepI ok_card R (K (nI (i + 4)))
  rw [if_neg c2]
  by_cases c3 : xs i &&& 31 = 3
  · rw [if_pos c3]
    simp only [ls1, bind_some']
    exact stepI (ok_line (xs (i + 1))) R (K (nI (i + 4)))
  rw [if_neg c3]
  by_cases c4 : xs i &&& 31 = 4
  · rw [if_pos c4]
    simp only [ls1, ls2, bind_some']
    exact stepI (ok_word (xs (i + 1)) (xs (i + 2))) R (K (nI (i + 4)))
  rw [if_neg c4]
  by_cases c5 : xs i &&& 31 = 5
  · rw [if_pos c5]
    exact stepI ok_writes R (K (nI (i + 4)))
  rw [if_neg c5]
  by_cases c6 : xs i &&& 31 = 6
  · rw [if_pos c6]
    exact stepI ok_signs R (K (nI (i + 4)))
  rw [if_neg c6]
  by_cases c7 : xs i &&& 31 = 7
  · rw [if_pos c7]
    exact stepI ok_breaks R (K (nI (i + 4)))
  rw [if_neg c7]
  by_cases c8 : xs i &&& 31 = 8
  · rw [if_pos c8]
    exact stepI ok_omits R (K (nI (i + 4)))
  rw [if_neg c8]
  by_cases c9 : xs i &&& 31 = 9
  · rw [if_pos c9]
    simp only [ls1, bind_some']
    exact stepI (ok_smaller (xs (i + 1))) R (K (nI (i + 4)))
  rw [if_neg c9]
  by_cases c10 : xs i &&& 31 = 10
  · rw [if_pos c10]
    exact stepI ok_turnsOver R (K (nI (i + 4)))
  rw [if_neg c10]
  by_cases c11 : xs i &&& 31 = 11
  · rw [if_pos c11]
    exact stepI ok_undo R (K (nI (i + 4)))
  rw [if_neg c11]
  by_cases c12 : xs i &&& 31 = 12
  · rw [if_pos c12]
    simp only [ls1, bind_some']
    exact stepI (ok_now (xs (i + 1))) R (K (nI (i + 4)))
  rw [if_neg c12]
  by_cases c13 : xs i &&& 31 = 13
  · rw [if_pos c13]
    simp only [ls1, ls2, ls3, bind_some']
    exact stepI (ok_fill (xs (i + 1)) (xs (i + 2)) (xs (i + 3))) R (K (nI (i + 4)))
  rw [if_neg c13]
  by_cases c14 : xs i &&& 31 = 14
  · rw [if_pos c14]
    exact stepI ok_greatest R (K (nI (i + 4)))
  rw [if_neg c14]
  by_cases c15 : xs i &&& 31 = 15
  · rw [if_pos c15]
    simp only [ls1, bind_some']
    exact stepI (ok_even (xs (i + 1))) R (K (nI (i + 4)))
  rw [if_neg c15]
  by_cases c16 : xs i &&& 31 = 16
  · rw [if_pos c16]
    simp only [ls1, ls2, bind_some']
    exact stepI (ok_kept (xs (i + 1)) (xs (i + 2))) R (K (nI (i + 4)))
  rw [if_neg c16]
  by_cases c17 : xs i &&& 31 = 17
  · rw [if_pos c17]
    simp only [ls1, ls2, bind_some']
    exact stepI (ok_telegram (xs (i + 1)) (xs (i + 2))) R (K (nI (i + 4)))
  rw [if_neg c17]
  by_cases c18 : xs i &&& 31 = 18
  · rw [if_pos c18]
    simp only [ls1, ls2, bind_some']
    exact stepI (ok_begun (xs (i + 1)) (xs (i + 2))) R (K (nI (i + 4)))
  rw [if_neg c18]
  by_cases c19 : xs i &&& 31 = 19
  · rw [if_pos c19]
    simp only [ls1, ls2, ls3, bind_some']
    exact stepL (ok_odds (xs (i + 1)) (xs (i + 2)) (xs (i + 3))) R (K (nI (i + 4)))
  rw [if_neg c19]
  by_cases c20 : xs i &&& 31 = 20
  · rw [if_pos c20]
    simp only [ls1, ls2, bind_some']
    exact stepI (ok_saw (xs (i + 1)) (xs (i + 2))) R (K (nI (i + 4)))
  rw [if_neg c20]
  by_cases c21 : xs i &&& 31 = 21
  · rw [if_pos c21]
    exact stepI ok_forget R (K (nI (i + 4)))
  rw [if_neg c21]
  by_cases c22 : xs i &&& 31 = 22
  · rw [if_pos c22]
    exact stepI ok_sizes R (K (nI (i + 4)))
  rw [if_neg c22]
  by_cases c23 : xs i &&& 31 = 23
  · rw [if_pos c23]
    simp only [ls1, bind_some']
    exact stepI (ok_two (xs (i + 1))) R (K (nI (i + 4)))
  rw [if_neg c23]
  by_cases c24 : xs i &&& 31 = 24
  · rw [if_pos c24]
    simp only [ls1, ls2, bind_some']
    exact stepI (ok_mark (xs (i + 1)) (xs (i + 2))) R (K (nI (i + 4)))
  rw [if_neg c24]
  by_cases c25 : xs i &&& 31 = 25
  · rw [if_pos c25]
    simp only [ls1, bind_some']
    exact stepI (ok_keep (xs (i + 1))) R (K (nI (i + 4)))
  rw [if_neg c25]
  by_cases c26 : xs i &&& 31 = 26
  · rw [if_pos c26]
    simp only [ls1, bind_some']
    exact stepI (ok_back (xs (i + 1))) R (K (nI (i + 4)))
  rw [if_neg c26]
  by_cases c27 : xs i &&& 31 = 27
  · rw [if_pos c27]
    simp only [ls1, bind_some']
    exact stepI (ok_count (xs (i + 1))) R (K (nI (i + 4)))
  rw [if_neg c27]
  by_cases c28 : xs i &&& 31 = 28
  · rw [if_pos c28]
    exact stepL ok_trace R (K (nI (i + 4)))
  rw [if_neg c28]
  exact ⟨h, R, rfl⟩
theorem law_loop {xs : Nat → Int32} {L : Nat} (hL : L ≤ 256) : ∀ d i, L - i < d → i ≤ L → ∀ m, d < m → ∀ h, Rel h → ∃ hf, LW_l18 xs L m (nI i) h = some ((1 : Int32), hf) := by
  intro d
  induction d with
  | zero => intro i hd; omega
  | succ d ih =>
    intro i hd hi m hm h R
    obtain ⟨m, rfl⟩ : ∃ z, m = z + 1 := ⟨m - 1, by omega⟩
    rw [LW_l18_s]
    by_cases c : i + 4 ≤ L
    · obtain ⟨h2, R2, e⟩ := law_body hL c (LW_l18 xs L m) R
      rw [e]
      exact ih (i + 4) (by omega) c m (by omega) h2 R2
    · have ex : (Int32.ofNat L - (4 : Int32)) < nI i := by
        show nI L - 4 < nI i
        by_cases c4 : 4 ≤ L
        · rw [i4, pk_sub c4]
          exact nI_lt (by omega) (by omega)
        · have hi0 : 0 ≤ (nI i).toInt := by rw [nI_toInt (by omega)]; omega
          rw [Int32.lt_iff_toInt_lt]
          have : (nI L - 4 : Int32).toInt < 0 := by
            have : L = 0 ∨ L = 1 ∨ L = 2 ∨ L = 3 := by omega
            rcases this with e | e | e | e <;> subst e <;> decide
          omega
      unfold LW_b18
      rw [if_pos ex]
      exact ⟨h, rfl⟩
theorem rel_init : Rel hInit := by
  refine ⟨0, 0, 1, fun _ => 0, fun _ _ => 0, ⟨by omega, by omega, by omega, by omega, fun l hl => by omega, fun w hw => by omega⟩, ⟨rfl, rfl, rfl, fun l hl => by omega, fun w hw => by omega⟩, ⟨rfl, rfl, rfl, fun l hl => by omega, fun w hw => by omega⟩, ⟨0, by omega, rfl, rfl, fun i hi => by omega⟩, ⟨fun j hj => ?_, ⟨⟨0, by omega, rfl⟩, ⟨0, by omega, rfl⟩, ⟨5, by omega, by omega, rfl⟩, 0, by omega, rfl⟩, 0, by omega, rfl, rfl, fun i hi => by omega⟩, ⟨0, 0, by omega, by omega, rfl, rfl, rfl, fun z => by omega, fun z => by omega⟩, ⟨0, by omega, rfl, rfl, fun i hi => by omega⟩, rfl⟩
  have : j = 0 ∨ j = 1 ∨ j = 2 ∨ j = 3 ∨ j = 4 := by omega
  rcases this with e | e | e | e | e <;> subst e <;> rfl
theorem law_holds (xs : Nat → Int32) (L : Nat) (hL : L ≤ 256) : ∃ hf, LW_l18 xs L fu 0 hInit = some ((1 : Int32), hf) := law_loop hL 300 0 (by omega) (Nat.zero_le L) fu (fu_pos (by omega)) hInit rel_init
/-- YOUR PART: from the entry, for every script of at most 256 ints, the law comes to its end with true -/
theorem whole_start {p : Program} {e : Env} {s : State} {m : MethodId} {below : List Frame} {meth : Method} {c : Code} (l : Launch) {b L : Nat} {xs : Nat → Int32} (hL : L ≤ 256) (C0 : lw_At p s m meth c b L xs) : W p l e room_1 s m #[Value.ref b] below meth c s.heap [] 0 0 (lw_Z below #[Value.ref b] s) (entryFrame m ([Value.ref b] : List Value).toArray 4) := law_start law_holds l hL C0
