/-! even: a lesser size never puts a PIECE further on -/
def ahd (a b : Nat × Nat × Bool) : Prop := a.2.2 = b.2.2 ∧ (a.1 < b.1 ∨ (a.1 = b.1 ∧ b.2.1 ≤ a.2.1))
theorem fl_get {L : Nat} {we sz : Nat → Nat} {n d l2 : Nat} (hd : d ≤ L) (h1 : L - d ≤ l2) (h2 : l2 < L) (h3 : n * sz l2 ≤ we l2) : ∃ l, fl L we sz n d = some l ∧ l ≤ l2 := by
  cases e : fl L we sz n d with
  | none => exact absurd h3 (fl_none hd e l2 h1 h2)
  | some l =>
    refine ⟨l, rfl, ?_⟩
    have := (fl_some hd e).2.2.2
    rcases Nat.lt_or_ge l2 l with z | z
    · exact absurd h3 (this l2 h1 z)
    · exact z
theorem pu_mono {L : Nat} {we sz : Nat → Nat} {s n : Nat} (hs : ∀ l, l < L → s ≤ sz l) {t t2 u : Nat × Nat × Bool} (h1 : sok L we t) (h2 : sok L we t2) (ha : ahd t2 t) (e : pu L we sz n t = some u) : ∃ u2, pu L we (fun _ => s) n t2 = some u2 ∧ ahd u2 u := by
  obtain ⟨l, left, first⟩ := t
  obtain ⟨l2, left2, first2⟩ := t2
  obtain ⟨hf, ho⟩ := ha
  have hf : first2 = first := hf
  subst hf
  have ho : l2 < l ∨ (l2 = l ∧ left ≤ left2) := ho
  -- where the lesser size may go on, if a LINE z is wide enough for it
  have mv : ∀ z m, z < L → n * s ≤ we z → m ≤ we z - n * s → (bif first2 then l2 else l2 + 1) ≤ z → ¬ (first2 = false ∧ (n + 1) * s ≤ left2) → ∃ u2, pu L we (fun _ => s) n (l2, left2, first2) = some u2 ∧ ahd u2 (z, m, false) := by
    intro z m hz hw hm hst hno
    obtain ⟨l3, e3, h3⟩ := fl_get (L := L) (we := we) (sz := fun _ => s) (n := n) (d := L - (bif first2 then l2 else l2 + 1)) (by omega) (l2 := z) (by omega) hz hw
    refine ⟨(l3, we l3 - n * s, false), ?_, rfl, ?_⟩
    · unfold pu
      rw [if_neg hno, e3]
      rfl
    · show l3 < z ∨ (l3 = z ∧ m ≤ we l3 - n * s)
      rcases Nat.lt_or_ge l3 z with q | q
      · exact Or.inl q
      · have : l3 = z := by omega
        subst this
        exact Or.inr ⟨rfl, hm⟩
  have stay : first2 = false → (n + 1) * s ≤ left2 → pu L we (fun _ => s) n (l2, left2, first2) = some (l2, left2 - (n + 1) * s, false) := by
    intro q1 q2
    unfold pu
    rw [if_pos ⟨q1, q2⟩]
  unfold pu at e
  by_cases c : first2 = false ∧ (n + 1) * sz l ≤ left
  · rw [if_pos c] at e
    cases e
    obtain ⟨a1, a2⟩ := h1.2 c.1
    have a1 : l < L := a1
    have a2 : left ≤ we l := a2
    have le1 : (n + 1) * s ≤ (n + 1) * sz l := Nat.mul_le_mul_left _ (hs l a1)
    have le2 : n * s ≤ (n + 1) * s := Nat.mul_le_mul_right _ (by omega)
    have c2 : (n + 1) * sz l ≤ left := c.2
    by_cases c3 : (n + 1) * s ≤ left2
    · refine ⟨_, stay c.1 c3, rfl, ?_⟩
      show l2 < l ∨ (l2 = l ∧ left - (n + 1) * sz l ≤ left2 - (n + 1) * s)
      omega
    · refine mv l (left - (n + 1) * sz l) a1 (by omega) (by omega) ?_ (fun z => c3 z.2)
      rw [c.1]
      show l2 + 1 ≤ l
      omega
  · rw [if_neg c] at e
    cases e3 : fl L we sz n (L - (bif first2 then l else l + 1)) with
    | none => have e : (fl L we sz n (L - (bif first2 then l else l + 1))).map _ = some u := e; rw [e3] at e; cases e
    | some z =>
      have e : (fl L we sz n (L - (bif first2 then l else l + 1))).map (fun l => (l, we l - n * sz l, false)) = some u := e
      rw [e3] at e
      cases e
      obtain ⟨b1, b2, b3, -⟩ := fl_some (by omega) e3
      have le1 : n * s ≤ n * sz z := Nat.mul_le_mul_left _ (hs z b2)
      by_cases c3 : first2 = false ∧ (n + 1) * s ≤ left2
      · refine ⟨_, stay c3.1 c3.2, rfl, ?_⟩
        left
        show l2 < z
        rw [c3.1] at b1
        have hlL : l < L := (h1.2 c3.1).1
        have b1 : L - (L - (l + 1)) ≤ z := b1
        omega
      · refine mv z (we z - n * sz z) b2 (by omega) (by omega) ?_ c3
        cases first2 with
        | true =>
          have b1 : L - (L - l) ≤ z := b1
          have : l = 0 := (h1.1 rfl).1
          have : l2 = 0 := (h2.1 rfl).1
          show l2 ≤ z
          omega
        | false =>
          have hlL : l < L := (h1.2 rfl).1
          have b1 : L - (L - (l + 1)) ≤ z := b1
          show l2 + 1 ≤ z
          omega
theorem stt_mono {L : Nat} {we sz ln : Nat → Nat} {b s : Nat} (hs : ∀ l, l < L → s ≤ sz l) : ∀ w t, stt L we sz ln b w = some t → ∃ t2, stt L we (fun _ => s) ln b w = some t2 ∧ ahd t2 t := by
  intro w
  induction w with
  | zero => intro t e; cases e; exact ⟨_, rfl, rfl, Or.inr ⟨rfl, Nat.le_refl _⟩⟩
  | succ w ih =>
    intro t e
    cases e0 : stt L we sz ln b w with
    | none => have := stt_n e0 1; rw [this] at e; cases e
    | some t0 =>
      obtain ⟨t2, e2, a2⟩ := ih t0 e0
      rw [stt_s e0] at e
      rw [stt_s e2]
      cases eb : b.testBit w with
      | true =>
        rw [eb] at e
        exact pu_mono hs (stt_ok e0) (stt_ok e2) a2 e
      | false =>
        rw [eb] at e
        cases e
        exact ⟨t2, rfl, a2⟩
/-! codes of sizes -/
def dg (L code l : Nat) : Nat := 5 - code / 5 ^ (L - 1 - l) % 5
def cst (Z : Nat) (sz : Nat → Nat) : Nat → Option Nat
  | 0 => some 0
  | l + 1 => (cst Z sz l).bind fun c => if sz l < Z ∨ (0 < l ∧ sz (l - 1) < sz l) then none else some (c + if l = 0 then 0 else (sz (l - 1) - sz l) * (sz (l - 1) - sz l))
theorem cst_some {Z : Nat} {sz : Nat → Nat} : ∀ {l c}, cst Z sz l = some c → ∀ j, j < l → Z ≤ sz j ∧ (0 < j → sz j ≤ sz (j - 1)) := by
  intro l
  induction l with
  | zero => intro c _ j hj; omega
  | succ l ih =>
    intro c e j hj
    unfold cst at e
    cases e0 : cst Z sz l with
    | none => rw [e0] at e; cases e
    | some c0 =>
      rw [e0] at e
      have e : (if sz l < Z ∨ (0 < l ∧ sz (l - 1) < sz l) then none else some _) = some c := e
      by_cases q : sz l < Z ∨ (0 < l ∧ sz (l - 1) < sz l)
      · rw [if_pos q] at e; cases e
      · by_cases ej : j = l
        · subst ej
          exact ⟨by omega, fun h => by omega⟩
        · exact ih e0 j (by omega)
theorem cst_zero {Z : Nat} {sz : Nat → Nat} : ∀ {l}, cst Z sz l = some 0 → ∀ j, j < l → sz j = sz 0 := by
  intro l
  induction l with
  | zero => intro _ j hj; omega
  | succ l ih =>
    intro e j hj
    have mono := cst_some e l (by omega)
    unfold cst at e
    cases e0 : cst Z sz l with
    | none => rw [e0] at e; cases e
    | some c0 =>
      rw [e0] at e
      have e : (if sz l < Z ∨ (0 < l ∧ sz (l - 1) < sz l) then none else some (c0 + if l = 0 then 0 else (sz (l - 1) - sz l) * (sz (l - 1) - sz l))) = some 0 := e
      by_cases q : sz l < Z ∨ (0 < l ∧ sz (l - 1) < sz l)
      · rw [if_pos q] at e; cases e
      · rw [if_neg q] at e
        have e := Option.some.inj e
        have c00 : c0 = 0 := by omega
        subst c00
        by_cases ej : j = l
        · subst ej
          by_cases j0 : j = 0
          · rw [j0]
          · rw [if_neg j0] at e
            have hm : (sz (j - 1) - sz j) * (sz (j - 1) - sz j) = 0 := by omega
            have : sz (j - 1) - sz j = 0 := by
              rcases Nat.mul_eq_zero.mp hm with h | h <;> exact h
            have h2 := ih e0 (j - 1) (by omega)
            have := mono.2 (by omega)
            omega
        · exact ih e0 j (by omega)
theorem cst_const {Z s : Nat} {sz : Nat → Nat} {L : Nat} (hz : Z ≤ s) (h : ∀ j, j < L → sz j = s) : ∀ l, l ≤ L → cst Z sz l = some 0 := by
  intro l
  induction l with
  | zero => intro _; rfl
  | succ l ih =>
    intro hl
    have e1 := h l (by omega)
    show (cst Z sz l).bind _ = some 0
    rw [ih (by omega)]
    show (if sz l < Z ∨ (0 < l ∧ sz (l - 1) < sz l) then none else some (0 + if l = 0 then 0 else (sz (l - 1) - sz l) * (sz (l - 1) - sz l))) = some 0
    by_cases l0 : l = 0
    · rw [if_neg (by omega), if_pos l0]
    · have e2 := h (l - 1) (by omega)
      rw [if_neg (by omega), if_neg l0, e1, e2, Nat.sub_self]
theorem cst_le {Z : Nat} {sz : Nat → Nat} (h5 : ∀ l, sz l ≤ 5) : ∀ {l c}, cst Z sz l = some c → c ≤ 25 * l := by
  intro l
  induction l with
  | zero => intro c e; cases e; omega
  | succ l ih =>
    intro c e
    unfold cst at e
    cases e0 : cst Z sz l with
    | none => rw [e0] at e; cases e
    | some c0 =>
      rw [e0] at e
      have e : (if sz l < Z ∨ (0 < l ∧ sz (l - 1) < sz l) then none else some (c0 + if l = 0 then 0 else (sz (l - 1) - sz l) * (sz (l - 1) - sz l))) = some c := e
      by_cases q : sz l < Z ∨ (0 < l ∧ sz (l - 1) < sz l)
      · rw [if_pos q] at e; cases e
      · rw [if_neg q] at e
        have e := Option.some.inj e
        have := ih e0
        have m : (sz (l - 1) - sz l) * (sz (l - 1) - sz l) ≤ 5 * 5 := Nat.mul_le_mul (by have := h5 (l - 1); omega) (by have := h5 (l - 1); omega)
        by_cases l0 : l = 0
        · rw [if_pos l0] at e; omega
        · rw [if_neg l0] at e; omega
/-- a digit so many times -/
def rep (a : Nat) : Nat → Nat
  | 0 => 0
  | m + 1 => 5 * rep a m + a
theorem rep_lt {a : Nat} (ha : a < 5) : ∀ m, rep a m < 5 ^ m := by
  intro m
  induction m with
  | zero => exact Nat.one_pos
  | succ m ih =>
    show 5 * rep a m + a < 5 ^ m * 5
    omega
theorem rep_dg {a : Nat} (ha : a < 5) : ∀ m i, i < m → rep a m / 5 ^ i % 5 = a := by
  intro m
  induction m with
  | zero => intro i hi; omega
  | succ m ih =>
    intro i hi
    show (5 * rep a m + a) / 5 ^ i % 5 = a
    cases i with
    | zero =>
      rw [Nat.pow_zero, Nat.div_one]
      omega
    | succ i =>
      rw [Nat.pow_succ, Nat.mul_comm (5 ^ i) 5, ← Nat.div_div_eq_div_mul, show (5 * rep a m + a) / 5 = rep a m by omega]
      exact ih i (by omega)
theorem gre_some {ok : Nat → Bool} {Z : Nat} : ∀ {m s}, gre ok Z m = some s → Z ≤ s ∧ s ≤ m ∧ ok s = true ∧ ∀ t, s < t → t ≤ m → ok t = false := by
  intro m
  induction m with
  | zero => intro s e; cases e
  | succ m ih =>
    intro s e
    unfold gre at e
    by_cases c : m + 1 < Z
    · rw [if_pos c] at e; cases e
    · rw [if_neg c] at e
      cases eo : ok (m + 1) with
      | true => rw [eo] at e; cases e; exact ⟨by omega, Nat.le_refl _, eo, fun t h1 h2 => by omega⟩
      | false =>
        rw [eo] at e
        obtain ⟨a1, a2, a3, a4⟩ := ih e
        refine ⟨a1, by omega, a3, fun t h1 h2 => ?_⟩
        by_cases et : t = m + 1
        · rw [et]; exact eo
        · exact a4 t h1 (by omega)
theorem gre_none {ok : Nat → Bool} {Z : Nat} (hz : 1 ≤ Z) : ∀ {m}, gre ok Z m = none → ∀ t, Z ≤ t → t ≤ m → ok t = false := by
  intro m
  induction m with
  | zero => intro _ t h1 h2; omega
  | succ m ih =>
    intro e t h1 h2
    unfold gre at e
    by_cases c : m + 1 < Z
    · omega
    · rw [if_neg c] at e
      cases eo : ok (m + 1) with
      | true => rw [eo] at e; cases e
      | false =>
        rw [eo] at e
        by_cases et : t = m + 1
        · rw [et]; exact eo
        · exact ih e t h1 (by omega)
section
variable {L P Z : Nat} {wd : Nat → Nat} {q : Nat → Nat → Nat}
/-- a code's sizes may be, at this cost, and all goes on -/
def fea (L P Z : Nat) (wd : Nat → Nat) (q : Nat → Nat → Nat) (code c : Nat) : Prop := cst Z (dg L code) L = some c ∧ (stt L wd (dg L code) (lnX q 0) (2 ^ P - 1) P).isSome = true
/-- the best of the codes below -/
def BI (L P Z : Nat) (wd : Nat → Nat) (q : Nat → Nat → Nat) (code : Nat) (o : Option (Nat × Nat)) : Prop := match o with
  | none => ∀ c2 c, c2 < code → ¬ fea L P Z wd q c2 c
  | some x => x.2 < code ∧ fea L P Z wd q x.2 x.1 ∧ ∀ c2 c, c2 < code → fea L P Z wd q c2 c → x.1 < c ∨ (x.1 = c ∧ x.2 ≤ c2)
theorem dg_le (L code l : Nat) : dg L code l ≤ 5 := by unfold dg; omega
theorem dg_pos (L code l : Nat) : 1 ≤ dg L code l := by
  have : code / 5 ^ (L - 1 - l) % 5 < 5 := Nat.mod_lt _ (by omega)
  unfold dg; omega
theorem fea_const {s : Nat} (h1 : Z ≤ s) (h5 : s ≤ 5) (hs : 1 ≤ s) (hok : okS L P wd q s = true) : ∃ code, code < 5 ^ L ∧ fea L P Z wd q code 0 ∧ ∀ l, l < L → dg L code l = s := by
  have hd : ∀ l, l < L → dg L (rep (5 - s) L) l = s := fun l hl => by
    unfold dg
    rw [rep_dg (by omega) L (L - 1 - l) (by omega)]
    omega
  refine ⟨rep (5 - s) L, rep_lt (by omega) L, ⟨cst_const h1 hd L (Nat.le_refl L), ?_⟩, hd⟩
  unfold okS at hok
  cases e : stt L wd (fun _ => s) (lnX q 0) (2 ^ P - 1) P with
  | none => rw [e] at hok; cases hok
  | some t =>
    -- sizes that are the same on all LINES fill the same
    have same : ∀ w, stt L wd (dg L (rep (5 - s) L)) (lnX q 0) (2 ^ P - 1) w = stt L wd (fun _ => s) (lnX q 0) (2 ^ P - 1) w := by
      intro w
      have fle : ∀ n d, d ≤ L → fl L wd (dg L (rep (5 - s) L)) n d = fl L wd (fun _ => s) n d := by
        intro n d
        induction d with
        | zero => intro _; rfl
        | succ d ih =>
          intro hd2
          show (if n * dg L (rep (5 - s) L) (L - (d + 1)) ≤ _ then _ else _) = (if n * s ≤ _ then _ else _)
          rw [hd _ (by omega), ih (by omega)]
      induction w with
      | zero => rfl
      | succ w ih =>
        cases e0 : stt L wd (fun _ => s) (lnX q 0) (2 ^ P - 1) w with
        | none =>
          have h1 := stt_n e0 1
          have h2 := stt_n (ih.trans e0) 1
          rw [h1, h2]
        | some t0 =>
          rw [stt_s e0, stt_s (ih.trans e0)]
          cases eb : (2 ^ P - 1).testBit w with
          | false => rfl
          | true =>
            show pu L wd (dg L (rep (5 - s) L)) (lnX q 0 w) t0 = pu L wd (fun _ => s) (lnX q 0 w) t0
            have sk := stt_ok e0
            obtain ⟨l, left, first⟩ := t0
            unfold pu
            cases first with
            | true =>
              rw [if_neg (fun z => by cases z.1), if_neg (fun z => by cases z.1)]
              show (fl L wd (dg L (rep (5 - s) L)) (lnX q 0 w) (L - l)).map _ = (fl L wd (fun _ => s) (lnX q 0 w) (L - l)).map _
              rw [fle _ _ (by omega)]
              cases e9 : fl L wd (fun _ => s) (lnX q 0 w) (L - l) with
              | none => rfl
              | some z => show some (z, wd z - lnX q 0 w * dg L _ z, false) = some (z, wd z - lnX q 0 w * s, false); rw [hd z (fl_some (by omega) e9).2.1]
            | false =>
              have hl : l < L := (sk.2 rfl).1
              show (if false = false ∧ (lnX q 0 w + 1) * dg L (rep (5 - s) L) l ≤ left then some (l, left - (lnX q 0 w + 1) * dg L (rep (5 - s) L) l, false) else (fl L wd (dg L (rep (5 - s) L)) (lnX q 0 w) (L - (l + 1))).map _) = (if false = false ∧ (lnX q 0 w + 1) * s ≤ left then some (l, left - (lnX q 0 w + 1) * s, false) else (fl L wd (fun _ => s) (lnX q 0 w) (L - (l + 1))).map _)
              rw [hd l hl, fle _ _ (by omega)]
              by_cases c : false = false ∧ (lnX q 0 w + 1) * s ≤ left
              · rw [if_pos c, if_pos c]
              · rw [if_neg c, if_neg c]
                cases e9 : fl L wd (fun _ => s) (lnX q 0 w) (L - (l + 1)) with
                | none => rfl
                | some z => show some (z, wd z - lnX q 0 w * dg L _ z, false) = some (z, wd z - lnX q 0 w * s, false); rw [hd z (fl_some (by omega) e9).2.1]
    rw [same P, e]
    rfl
theorem fea_ok (k : Cok L P Z wd q) {code c : Nat} (h : fea L P Z wd q code c) : ∃ s, Z ≤ s ∧ s ≤ 5 ∧ okS L P wd q s = true ∧ (∀ l, l < L → s ≤ dg L code l) := by
  obtain ⟨h1, h2⟩ := h
  have mono : ∀ m, m < L → ∀ j, j ≤ m → dg L code m ≤ dg L code j := by
    intro m
    induction m with
    | zero => intro _ j hj; rw [show j = 0 by omega]; exact Nat.le_refl _
    | succ m ih =>
      intro hm j hj
      have := (cst_some h1 (m + 1) hm).2 (by omega)
      by_cases e : j = m + 1
      · rw [e]; exact Nat.le_refl _
      · exact Nat.le_trans this (ih (by omega) j (by omega))
  obtain ⟨s, hs1, hs2, hs3⟩ : ∃ s, Z ≤ s ∧ s ≤ 5 ∧ ∀ l, l < L → s ≤ dg L code l := by
    by_cases l0 : L = 0
    · exact ⟨Z, Nat.le_refl _, k.2.2.2.1, fun l hl => by omega⟩
    · exact ⟨dg L code (L - 1), (cst_some h1 (L - 1) (by omega)).1, dg_le _ _ _, fun l hl => mono (L - 1) (by omega) l (by omega)⟩
  refine ⟨s, hs1, hs2, ?_, hs3⟩
  unfold okS
  cases e : stt L wd (dg L code) (lnX q 0) (2 ^ P - 1) P with
  | none => rw [e] at h2; cases h2
  | some t =>
    obtain ⟨t2, e2, -⟩ := stt_mono hs3 P t e
    rw [e2]
    rfl
/-- so the best of all codes is the greatest size, everywhere -/
theorem BI_end (k : Cok L P Z wd q) {o : Option (Nat × Nat)} (h : BI L P Z wd q (5 ^ L) o) : match gre (okS L P wd q) Z 5 with
    | none => o = none
    | some g => ∃ code, o = some (0, code) ∧ ∀ l, l < L → dg L code l = g := by
  have z1 := k.2.2.1
  cases eg : gre (okS L P wd q) Z 5 with
  | none =>
    cases o with
    | none => rfl
    | some x =>
      obtain ⟨-, h2, -⟩ := h
      obtain ⟨s, a1, a2, a3, -⟩ := fea_ok k h2
      rw [gre_none z1 eg s a1 a2] at a3
      cases a3
  | some g =>
    obtain ⟨g1, g2, g3, g4⟩ := gre_some eg
    obtain ⟨cg, c1, c2, c3⟩ := fea_const (q := q) (Z := Z) g1 g2 (by omega) g3
    cases o with
    | none => exact absurd c2 (h cg 0 c1)
    | some x =>
      obtain ⟨x1, x2⟩ := x
      obtain ⟨b1, b2, b3⟩ := h
      have b1 : x2 < 5 ^ L := b1
      have b2 : fea L P Z wd q x2 x1 := b2
      have b4 := b3 cg 0 c1 c2
      have b4 : x1 < 0 ∨ (x1 = 0 ∧ x2 ≤ cg) := b4
      have x0 : x1 = 0 := by omega
      subst x0
      have xle : x2 ≤ cg := by omega
      refine ⟨x2, rfl, fun l hl => ?_⟩
      have const := cst_zero b2.1
      rw [const l hl]
      -- the first digit tells the size
      have top : g ≤ dg L x2 0 := by
        have e1 := c3 0 (by omega)
        unfold dg at e1 ⊢
        have d1 : x2 / 5 ^ (L - 1 - 0) < 5 := by
          apply Nat.div_lt_of_lt_mul
          rw [← Nat.pow_succ, show (L - 1 - 0).succ = L by omega]
          exact b1
        have d2 : cg / 5 ^ (L - 1 - 0) < 5 := by
          apply Nat.div_lt_of_lt_mul
          rw [← Nat.pow_succ, show (L - 1 - 0).succ = L by omega]
          exact c1
        have d3 : x2 / 5 ^ (L - 1 - 0) ≤ cg / 5 ^ (L - 1 - 0) := Nat.div_le_div_right xle
        rw [Nat.mod_eq_of_lt d1]
        rw [Nat.mod_eq_of_lt d2] at e1
        omega
      rcases Nat.lt_or_ge g (dg L x2 0) with q1 | q1
      · obtain ⟨s, a1, a2, a3, a4⟩ := fea_ok k b2
        have hk : okS L P wd q (dg L x2 0) = true := by
          obtain ⟨-, h2⟩ := b2
          unfold okS
          cases e : stt L wd (dg L x2) (lnX q 0) (2 ^ P - 1) P with
          | none => rw [e] at h2; cases h2
          | some t =>
            obtain ⟨t2, e2, -⟩ := stt_mono (s := dg L x2 0) (fun l hl => Nat.le_of_eq (const l hl).symm) P t e
            rw [e2]
            rfl
        rw [g4 _ q1 (dg_le _ _ _)] at hk
        cases hk
      · omega
end
