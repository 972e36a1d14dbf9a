/-! filling, as numbers: the LINE where a PIECE goes, what is left of it, whether none stands yet -/
def fl (L : Nat) (we sz : Nat → Nat) (n : Nat) : Nat → Option Nat
  | 0 => none
  | d + 1 => if n * sz (L - (d + 1)) ≤ we (L - (d + 1)) then some (L - (d + 1)) else fl L we sz n d
def pu (L : Nat) (we sz : Nat → Nat) (n : Nat) (s : Nat × Nat × Bool) : Option (Nat × Nat × Bool) :=
  if s.2.2 = false ∧ (n + 1) * sz s.1 ≤ s.2.1 then some (s.1, s.2.1 - (n + 1) * sz s.1, false)
  else (fl L we sz n (L - (bif s.2.2 then s.1 else s.1 + 1))).map fun l => (l, we l - n * sz l, false)
def stt (L : Nat) (we sz ln : Nat → Nat) (b : Nat) : Nat → Option (Nat × Nat × Bool)
  | 0 => some (0, if 0 < L then we 0 else 0, true)
  | w + 1 => (stt L we sz ln b w).bind fun s => bif b.testBit w then pu L we sz (ln w) s else some s
theorem fl_some {L : Nat} {we sz : Nat → Nat} {n : Nat} : ∀ {d l}, d ≤ L → fl L we sz n d = some l → L - d ≤ l ∧ l < L ∧ n * sz l ≤ we l ∧ ∀ l2, L - d ≤ l2 → l2 < l → ¬ n * sz l2 ≤ we l2 := by
  intro d
  induction d with
  | zero => intro l _ e; cases e
  | succ d ih =>
    intro l hd e
    unfold fl at e
    by_cases c : n * sz (L - (d + 1)) ≤ we (L - (d + 1))
    · rw [if_pos c] at e
      cases e
      exact ⟨Nat.le_refl _, by omega, c, fun l2 h1 h2 => by omega⟩
    · rw [if_neg c] at e
      obtain ⟨a1, a2, a3, a4⟩ := ih (by omega) e
      refine ⟨by omega, a2, a3, fun l2 h1 h2 => ?_⟩
      by_cases e2 : l2 = L - (d + 1)
      · rw [e2]; exact c
      · exact a4 l2 (by omega) h2
theorem fl_none {L : Nat} {we sz : Nat → Nat} {n : Nat} : ∀ {d}, d ≤ L → fl L we sz n d = none → ∀ l2, L - d ≤ l2 → l2 < L → ¬ n * sz l2 ≤ we l2 := by
  intro d
  induction d with
  | zero => intro _ _ l2 h1 h2; omega
  | succ d ih =>
    intro hd e l2 h1 h2
    unfold fl at e
    by_cases c : n * sz (L - (d + 1)) ≤ we (L - (d + 1))
    · rw [if_pos c] at e; cases e
    · rw [if_neg c] at e
      by_cases e2 : l2 = L - (d + 1)
      · rw [e2]; exact c
      · exact ih (by omega) e l2 (by omega) h2
theorem fl_at {L : Nat} {we sz : Nat → Nat} {n l : Nat} (h : l < L) : fl L we sz n (L - l) = if n * sz l ≤ we l then some l else fl L we sz n (L - (l + 1)) := by
  obtain ⟨d, hd⟩ : ∃ d, L - l = d + 1 := ⟨L - l - 1, by omega⟩
  rw [hd, show L - (l + 1) = d by omega]
  show (if n * sz (L - (d + 1)) ≤ we (L - (d + 1)) then some (L - (d + 1)) else fl L we sz n d) = _
  rw [show L - (d + 1) = l by omega]
/-- what always holds of such a state -/
def sok (L : Nat) (we : Nat → Nat) (s : Nat × Nat × Bool) : Prop := (s.2.2 = true → s.1 = 0 ∧ s.2.1 = if 0 < L then we 0 else 0) ∧ (s.2.2 = false → s.1 < L ∧ s.2.1 ≤ we s.1)
theorem pu_ok {L : Nat} {we sz : Nat → Nat} {n : Nat} {s t : Nat × Nat × Bool} (hs : sok L we s) (e : pu L we sz n s = some t) : sok L we t ∧ t.2.2 = false := by
  unfold pu at e
  by_cases c : s.2.2 = false ∧ (n + 1) * sz s.1 ≤ s.2.1
  · rw [if_pos c] at e
    cases e
    have := hs.2 c.1
    exact ⟨⟨fun h => (by cases h), fun _ => ⟨this.1, by show s.2.1 - _ ≤ we s.1; omega⟩⟩, rfl⟩
  · rw [if_neg c] at e
    cases h : fl L we sz n (L - (bif s.2.2 then s.1 else s.1 + 1)) with
    | none => rw [h] at e; cases e
    | some l =>
      rw [h] at e
      cases e
      have := fl_some (by omega) h
      exact ⟨⟨fun h => (by cases h), fun _ => ⟨this.2.1, by show we l - _ ≤ we l; omega⟩⟩, rfl⟩
theorem stt_ok {L : Nat} {we sz ln : Nat → Nat} {b : Nat} : ∀ {w s}, stt L we sz ln b w = some s → sok L we s := by
  intro w
  induction w with
  | zero => intro s e; cases e; exact ⟨fun _ => ⟨rfl, rfl⟩, fun h => (by cases h)⟩
  | succ w ih =>
    intro s e
    unfold stt at e
    cases h : stt L we sz ln b w with
    | none => rw [h] at e; cases e
    | some t =>
      rw [h] at e
      have e : (bif b.testBit w then pu L we sz (ln w) t else some t) = some s := e
      cases hb : b.testBit w with
      | true => rw [hb] at e; exact (pu_ok (ih h) e).1
      | false => rw [hb] at e; cases e; exact ih h
theorem stt_s {L : Nat} {we sz ln : Nat → Nat} {b w : Nat} {s : Nat × Nat × Bool} (h : stt L we sz ln b w = some s) : stt L we sz ln b (w + 1) = bif b.testBit w then pu L we sz (ln w) s else some s := by
  show (stt L we sz ln b w).bind _ = _
  rw [h]
  rfl
theorem stt_n {L : Nat} {we sz ln : Nat → Nat} {b w : Nat} (h : stt L we sz ln b w = none) : ∀ d, stt L we sz ln b (w + d) = none := by
  intro d
  induction d with
  | zero => exact h
  | succ d ih =>
    show (stt L we sz ln b (w + d)).bind _ = none
    rw [ih]
    rfl
/-! the class: Filling -/
/-- cell 10 holds such a state -/
def F10 (h : Hp) (s : Nat × Nat × Bool) : Prop := h.1 10 2 = nI s.1 ∧ h.1 10 3 = nI s.2.1 ∧ h.1 10 4 = bi s.2.2
def FX (h g : Hp) : Prop := (∀ o, o ≠ 10 → o ≠ 11 → g.1 o = h.1 o) ∧ g.2 = h.2
theorem FX.rf (h : Hp) : FX h h := ⟨fun _ _ _ => rfl, rfl⟩
theorem FX.tr {a b c : Hp} (x : FX a b) (y : FX b c) : FX a c := ⟨fun o h1 h2 => (y.1 o h1 h2).trans (x.1 o h1 h2), y.2.trans x.2⟩
theorem FX.s {a b : Hp} (x : FX a b) (k : Nat) (v : Int32) : FX a (sI b 10 k v) := ⟨fun o h1 h2 => by rw [sI_row, if_neg h1]; exact x.1 o h1 h2, x.2⟩
theorem FX.s11 {a b : Hp} (x : FX a b) (k : Nat) (v : Int32) : FX a (sI b 11 k v) := ⟨fun o h1 h2 => by rw [sI_row, if_neg h2]; exact x.1 o h1 h2, x.2⟩
theorem FX.fr {a b : Hp} (x : FX a b) : Fr a b := ⟨fun o j q => by
  have h1 : o ≠ 10 := fun e => by rw [e] at q; cases q
  have h2 : o ≠ 11 := fun e => by rw [e] at q; cases q
  rw [x.1 o h1 h2], x.2⟩
theorem FX.cd {a b : Hp} {L P Z : Nat} {wd : Nat → Nat} {q : Nat → Nat → Nat} (x : FX a b) (c : CdX a L P Z wd q) : CdX b L P Z wd q := c.of (fun j _ => by rw [x.1 4 (by decide) (by decide)]) (x.1 5 (by decide) (by decide)) (x.1 6 (by decide) (by decide))
def onF (h : Hp) (wd : Nat → Nat) (m : Nat) (o : Option Nat) : Option (Int32 × Hp) := match o with
  | none => some (0, h)
  | some l2 => some (1, sI (sI h 10 2 (nI l2)) 10 3 (nI (wd l2 - m)))
section
variable {L P Z : Nat} {wd : Nat → Nat} {q : Nat → Nat → Nat}
theorem put_loop {h : Hp} (c : CdX h L P Z wd q) (k : Cok L P Z wd q) {nn s : Nat} (hn : nn ≤ 20) (h5 : s ≤ 5) : ∀ d l, l + d = L → ∀ n, d < n → X0_put_l50 n (nI nn) (nI s) (nI l) h = onF h wd (nn * s) (fl L wd (fun _ => s) nn d) := by
  have h6 := k.1
  have m100 : nn * s ≤ 20 * 5 := Nat.mul_le_mul hn h5
  intro d
  induction d with
  | zero =>
    intro l hl n hn2
    obtain ⟨n, rfl⟩ : ∃ z, n = z + 1 := ⟨n - 1, by omega⟩
    have : l = L := by omega
    subst this
    rw [X0_put_l50_s]
    unfold X0_put_b50
    rw [c.1, if_pos (Int32.le_refl _)]
    rfl
  | succ d ih =>
    intro l hl n hn2
    obtain ⟨n, rfl⟩ : ∃ z, n = z + 1 := ⟨n - 1, by omega⟩
    have hlL : l < L := by omega
    have w60 := k.2.2.2.2.1 l hlL
    rw [X0_put_l50_s]
    unfold X0_put_b50
    rw [c.1, if_neg (nI_ge hlL (by omega)), wideOf_yes c k hlL, b2_some, pk_mul]
    rw [show fl L wd (fun _ => s) nn (d + 1) = if nn * s ≤ wd (L - (d + 1)) then some (L - (d + 1)) else fl L wd (fun _ => s) nn d from rfl, show L - (d + 1) = l by omega]
    by_cases cf : nn * s ≤ wd l
    · have c2 : CdX (sI h 10 2 (nI l)) L P Z wd q := ((FX.rf h).s 2 (nI l)).cd c
      rw [if_neg (nI_nlt cf (by omega)), if_pos cf, wideOf_yes c2 k hlL, b2_some, pk_sub cf]
      rfl
    · rw [if_pos (nI_lt (by omega) (by omega)), if_neg cf, i1, nI_add]
      exact ih (l + 1) (by omega) n (by omega)
/-- the widths that the class sees: the first LINE is less by what is lost -/
def weX (wd : Nat → Nat) (far l : Nat) : Nat := if l = 0 then wd 0 - far else wd l
theorem fl_tail {we : Nat → Nat} {s nn : Nat} (hw : ∀ l, 1 ≤ l → we l = wd l) : ∀ d, d < L ∨ d = 0 → fl L we (fun _ => s) nn d = fl L wd (fun _ => s) nn d := by
  intro d
  induction d with
  | zero => intro _; rfl
  | succ d ih =>
    intro hd
    show (if nn * s ≤ we (L - (d + 1)) then some (L - (d + 1)) else fl L we (fun _ => s) nn d) = (if nn * s ≤ wd (L - (d + 1)) then some (L - (d + 1)) else fl L wd (fun _ => s) nn d)
    rw [hw _ (by omega), ih (by omega)]
theorem put_X {h : Hp} (c : CdX h L P Z wd q) (k : Cok L P Z wd q) {nn s far : Nat} (hn1 : 1 ≤ nn) (hn : nn ≤ 20) (h1 : 1 ≤ s) (h5 : s ≤ 5) {t : Nat × Nat × Bool} (ht : sok L (weX wd far) t) (e : F10 h t) :
    ∃ g, FX h g ∧ g.1 11 = h.1 11 ∧ X0_put (nI nn) (nI s) h = some (bi (pu L (weX wd far) (fun _ => s) nn t).isSome, g) ∧ ∀ u, pu L (weX wd far) (fun _ => s) nn t = some u → F10 g u := by
  have h6 := k.1
  have hw : ∀ l, 1 ≤ l → weX wd far l = wd l := fun l hl => by unfold weX; rw [if_neg (by omega)]
  have w60 : ∀ l, l < L → weX wd far l ≤ 60 := fun l hl => by
    have := k.2.2.2.2.1 l hl
    unfold weX
    split
    · rename_i z; subst z; omega
    · omega
  have m100 : nn * s ≤ 20 * 5 := Nat.mul_le_mul hn h5
  have m105 : (nn + 1) * s ≤ 21 * 5 := Nat.mul_le_mul (by omega) h5
  have m1 : 1 * 1 ≤ nn * s := Nat.mul_le_mul hn1 h1
  obtain ⟨l, left, first⟩ := t
  obtain ⟨e1, e2, e3⟩ := e
  have e1 : h.1 10 2 = nI l := e1
  have e2 : h.1 10 3 = nI left := e2
  have e3 : h.1 10 4 = bi first := e3
  have hleft : left ≤ 60 := by
    cases first with
    | true =>
      have : left = if 0 < L then weX wd far 0 else 0 := (ht.1 rfl).2
      by_cases z : 0 < L
      · rw [if_pos z] at this; have := w60 0 z; omega
      · rw [if_neg z] at this; omega
    | false =>
      obtain ⟨z1, z2⟩ := ht.2 rfl
      have z1 : l < L := z1
      have z2 : left ≤ weX wd far l := z2
      have := w60 l z1
      omega
  obtain ⟨h0, eh0⟩ : ∃ g, g = sI h 10 4 0 := ⟨_, rfl⟩
  have x0 : FX h h0 := by rw [eh0]; exact (FX.rf h).s 4 0
  have c0 : CdX h0 L P Z wd q := x0.cd c
  have hl6 : l ≤ 6 := by
    cases first with
    | true => have : l = 0 := (ht.1 rfl).1; omega
    | false => have : l < L := (ht.2 rfl).1; omega
  have scan : X0_put_l50 fu (nI nn) (nI s) (nI (l + 1)) h0 = onF h0 (weX wd far) (nn * s) (fl L (weX wd far) (fun _ => s) nn (L - (l + 1))) := by
    rw [fl_tail hw (L - (l + 1)) (by omega)]
    by_cases z : l + 1 ≤ L
    · rw [put_loop c0 k hn h5 (L - (l + 1)) (l + 1) (by omega) fu (fu_pos (by omega))]
      cases hf : fl L wd (fun _ => s) nn (L - (l + 1)) with
      | none => rfl
      | some l2 =>
        have := (fl_some (by omega) hf).1
        show some (1, sI (sI h0 10 2 (nI l2)) 10 3 (nI (wd l2 - nn * s))) = some (1, sI (sI h0 10 2 (nI l2)) 10 3 (nI (weX wd far l2 - nn * s)))
        rw [hw l2 (by omega)]
    · have z0 : L = 0 := by
        cases first with
        | true => have : l = 0 := (ht.1 rfl).1; omega
        | false => have : l < L := (ht.2 rfl).1; omega
      subst z0
      rw [show 0 - (l + 1) = 0 by omega]
      show X0_put_l50 fu (nI nn) (nI s) (nI (l + 1)) h0 = some (0, h0)
      obtain ⟨f, hf⟩ : ∃ z, fu = z + 1 := ⟨fu - 1, by rw [fu_eq]⟩
      rw [hf, X0_put_l50_s]
      unfold X0_put_b50
      rw [c0.1, if_pos (nI_le (by omega) (by omega))]
  have fin : ∀ need : Nat, need ≤ 105 → (need ≤ left ↔ ((first = false ∧ (nn + 1) * s ≤ left) ∨ (first = true ∧ 0 < L ∧ nn * s ≤ weX wd far 0))) → (first = false → need = (nn + 1) * s) → (first = true → need = nn * s) →
      ∃ g, FX h g ∧ g.1 11 = h.1 11 ∧ (if nI left < nI need then X0_put_l50 fu (nI nn) (nI s) (nI l + 1) h0 else some (1, sI h0 10 3 (nI left - nI need))) = some (bi (pu L (weX wd far) (fun _ => s) nn (l, left, first)).isSome, g) ∧ ∀ u, pu L (weX wd far) (fun _ => s) nn (l, left, first) = some u → F10 g u := by
    intro need hneed hiff hf hfst
    have z4 : h0.1 10 4 = 0 := by rw [eh0]; rfl
    have z2 : h0.1 10 2 = nI l := by rw [eh0]; exact e1
    have z11 : h0.1 11 = h.1 11 := by rw [eh0, sI_row, if_neg (by decide)]
    have tailp : ∀ {d : Nat}, pu L (weX wd far) (fun _ => s) nn (l, left, first) = (fl L (weX wd far) (fun _ => s) nn (L - (l + 1))).map (fun l => (l, weX wd far l - nn * s, false)) → ∃ g, FX h g ∧ g.1 11 = h.1 11 ∧ X0_put_l50 fu (nI nn) (nI s) (nI l + 1) h0 = some (bi (pu L (weX wd far) (fun _ => s) nn (l, left, first)).isSome, g) ∧ ∀ u, pu L (weX wd far) (fun _ => s) nn (l, left, first) = some u → F10 g u := by
      intro _ ep
      rw [i1, nI_add, scan, ep]
      cases hfl : fl L (weX wd far) (fun _ => s) nn (L - (l + 1)) with
      | none => exact ⟨h0, x0, z11, rfl, fun u hu => (by cases hu)⟩
      | some l2 =>
        refine ⟨sI (sI h0 10 2 (nI l2)) 10 3 (nI (weX wd far l2 - nn * s)), (x0.s 2 _).s 3 _, by rw [sI_row, if_neg (by decide), sI_row, if_neg (by decide), z11], rfl, fun u hu => ?_⟩
        cases hu
        exact ⟨rfl, rfl, z4⟩
    by_cases cf : need ≤ left
    · rw [if_neg (nI_nlt cf (by omega)), pk_sub cf]
      rcases hiff.mp cf with ⟨f0, q0⟩ | ⟨f0, q1, q2⟩
      · subst f0
        have ep : pu L (weX wd far) (fun _ => s) nn (l, left, false) = some (l, left - (nn + 1) * s, false) := by unfold pu; rw [if_pos ⟨rfl, q0⟩]
        rw [ep, hf rfl]
        refine ⟨sI h0 10 3 (nI (left - (nn + 1) * s)), x0.s 3 _, by rw [sI_row, if_neg (by decide), z11], rfl, fun u hu => ?_⟩
        cases hu
        exact ⟨z2, rfl, z4⟩
      · subst f0
        have l0 : l = 0 := (ht.1 rfl).1
        have lf : left = weX wd far 0 := by have := (ht.1 rfl).2; rw [if_pos q1] at this; exact this
        subst l0
        have ep : pu L (weX wd far) (fun _ => s) nn (0, left, true) = some (0, weX wd far 0 - nn * s, false) := by
          unfold pu
          rw [if_neg (fun z => by cases z.1)]
          show (fl L (weX wd far) (fun _ => s) nn (L - 0)).map _ = _
          rw [fl_at q1, if_pos q2]
          rfl
        rw [ep, hfst rfl, lf]
        refine ⟨sI h0 10 3 (nI (weX wd far 0 - nn * s)), x0.s 3 _, by rw [sI_row, if_neg (by decide), z11], rfl, fun u hu => ?_⟩
        cases hu
        exact ⟨z2, rfl, z4⟩
    · rw [if_pos (nI_lt (by omega) (by omega))]
      refine tailp (d := 0) ?_
      unfold pu
      cases first with
      | false =>
        rw [if_neg (fun z => cf (hiff.mpr (Or.inl z)))]
        rfl
      | true =>
        rw [if_neg (fun z => by cases z.1)]
        have l0 : l = 0 := (ht.1 rfl).1
        subst l0
        show (fl L (weX wd far) (fun _ => s) nn (L - 0)).map _ = (fl L (weX wd far) (fun _ => s) nn (L - (0 + 1))).map _
        by_cases z : 0 < L
        · rw [fl_at z, if_neg (fun w => cf (hiff.mpr (Or.inr ⟨rfl, z, w⟩)))]
        · rw [show L = 0 by omega]
  unfold X0_put
  rw [e3]
  cases first with
  | false =>
    rw [if_pos (show bi false = 0 from rfl), i1, nI_add]
    unfold X0_put_b14
    rw [e1, e2, pk_mul, ← eh0]
    exact fin ((nn + 1) * s) (by omega) ⟨fun z => Or.inl ⟨rfl, z⟩, fun z => by rcases z with z | z; exact z.2; cases z.1⟩ (fun _ => rfl) (fun z => by cases z)
  | true =>
    rw [if_neg (show ¬ bi true = 0 by decide)]
    unfold X0_put_b14
    rw [e1, e2, pk_mul, ← eh0]
    refine fin (nn * s) (by omega) ⟨fun z => Or.inr ⟨rfl, ?_⟩, fun z => ?_⟩ (fun z => by cases z) (fun _ => rfl)
    · have := (ht.1 rfl).2
      have this : left = if 0 < L then weX wd far 0 else 0 := this
      by_cases z2 : 0 < L
      · rw [if_pos z2] at this; exact ⟨z2, by omega⟩
      · rw [if_neg z2] at this; omega
    · rcases z with z | ⟨-, z2, z3⟩
      · cases z.1
      · have this : left = if 0 < L then weX wd far 0 else 0 := (ht.1 rfl).2
        rw [if_pos z2] at this; omega
theorem begin_X {h : Hp} (c : CdX h L P Z wd q) (k : Cok L P Z wd q) {far : Nat} (hfar : far ≤ 60) : ∃ g, X0_begin (nI far) h = some g ∧ FX h g ∧ g.1 11 = h.1 11 ∧ F10 g (0, if 0 < L then weX wd far 0 else 0, true) := by
  have h6 := k.1
  have c2 : CdX (sI h 10 2 0) L P Z wd q := ((FX.rf h).s 2 0).cd c
  unfold X0_begin
  by_cases z : 0 < L
  · have w60 := k.2.2.2.2.1 0 z
    rw [if_pos z]
    have e : X3_wideOf 0 (sI h 10 2 0) = some (nI (wd 0), sI h 10 2 0) := wideOf_yes (l := 0) c2 k z
    rw [e, b2_some]
    have hv : (if nI (wd 0) - nI far < (0 : Int32) then (0 : Int32) else nI (wd 0) - nI far) = nI (weX wd far 0) := by
      unfold weX
      rw [if_pos rfl]
      by_cases y : far ≤ wd 0
      · rw [pk_sub y, if_neg (nI_pos (by omega))]
      · rw [if_pos (pk_sneg (by omega) (by omega)), show wd 0 - far = 0 by omega]; rfl
    rw [hv]
    exact ⟨_, rfl, (((FX.rf h).s 2 0).s 3 _).s 4 _, by simp only [sI_row, show ¬ (11 : Nat) = 10 by decide, if_false], rfl, rfl, rfl⟩
  · rw [if_neg z]
    have e : X3_wideOf 0 (sI h 10 2 0) = some (0, sI h 10 2 0) := wideOf_no c2 k (by rw [i0, ix_nIff (by omega)]; omega)
    rw [e, b2_some]
    have hv : (if (0 : Int32) - nI far < (0 : Int32) then (0 : Int32) else (0 : Int32) - nI far) = nI 0 := by
      by_cases y : far = 0
      · subst y; decide
      · exact if_pos (pk_sneg (a := 0) (b := far) (by omega) (by omega))
    rw [hv]
    exact ⟨_, rfl, (((FX.rf h).s 2 0).s 3 _).s 4 _, by simp only [sI_row, show ¬ (11 : Nat) = 10 by decide, if_false], rfl, rfl, rfl⟩
end
