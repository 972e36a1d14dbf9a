/-! one row, read by the reference -/
def DY (h : Hp) (L P Z b : Nat) (wd : Nat → Nat) (q : Nat → Nat → Nat) : Prop := h.1 22 1 = nI L ∧ h.1 24 1 = nI P ∧ h.1 26 1 = nI Z ∧ h.1 20 13 = nI b ∧ (∀ l, l < L → h.1 23 (6 + l) = nI (wd l)) ∧ ∀ w, w < P → ∀ j, j < 5 → h.1 25 (50 + 5 * w + j) = nI (q w j)
abbrev JD (j : Nat) : Prop := 8 ≤ j ∧ j ≤ 12
def SY (bt : Nat → Nat) (n p L P b : Nat) (h : Hp) (k : Nat) : Prop := (flt bt n p L P b k = none → h.1 20 12 = -9 ∧ TKY h (tkN bt n p k)) ∧ ∀ s, flt bt n p L P b k = some s → h.1 20 12 = nI s
theorem srt_cases {t : Tk} (h1 : t.2.1 = 1 → 97 ≤ t.2.2.1 ∧ t.2.2.1 ≤ 122) (h4 : t.2.1 ≤ 4) : ∃ v, v ≤ 122 ∧ srt t = nI v ∧ (v = 1 ↔ t.2.1 = 2) ∧ (v = 2 ↔ t.2.1 = 3) ∧ (v = 3 ↔ t.2.1 = 0) ∧ ∀ c, 97 ≤ c → (v = c ↔ t.2.1 = 1 ∧ t.2.2.1 = c) := by
  unfold srt
  by_cases c1 : t.2.1 = 1
  · rw [if_pos c1]
    have := h1 c1
    exact ⟨t.2.2.1, by omega, rfl, by omega, by omega, by omega, fun c hc => by omega⟩
  · rw [if_neg c1]
    by_cases c2 : t.2.1 = 2
    · rw [if_pos c2]; exact ⟨1, by omega, rfl, by omega, by omega, by omega, fun c hc => by omega⟩
    · rw [if_neg c2]
      by_cases c3 : t.2.1 = 3
      · rw [if_pos c3]; exact ⟨2, by omega, rfl, by omega, by omega, by omega, fun c hc => by omega⟩
      · rw [if_neg c3]
        by_cases c0 : t.2.1 = 0
        · rw [if_pos c0]; exact ⟨3, by omega, rfl, by omega, by omega, by omega, fun c hc => by omega⟩
        · rw [if_neg c0]; exact ⟨4, by omega, rfl, by omega, by omega, by omega, fun c hc => by omega⟩
section
variable {n : Nat} {bt : Nat → Nat} {p L P Z b : Nat} {wd : Nat → Nat} {q : Nat → Nat → Nat}
theorem SY.of {h g : Hp} {k : Nat} (s : SY bt n p L P b h k) (e : g.1 20 = h.1 20) : SY bt n p L P b g k := by
  unfold SY TKY
  rw [e]
  exact s
theorem TY.of {h g : Hp} (t : TY h n bt) (e1 : g.1 20 2 = h.1 20 2) (e2 : g.1 21 = h.1 21) : TY g n bt := by
  unfold TY
  rw [e1, e2]
  exact t
theorem okR4 {c a k : Nat} {t : Tk} (h : okR L P b c a k t = true) : t.2.1 ≠ 4 := by
  unfold okR at h
  by_cases k0 : k = 0
  · rw [if_pos k0] at h
    have h : t.2.1 = 1 ∧ _ := of_decide_eq_true h
    omega
  · rw [if_neg k0] at h
    by_cases k1 : k ≤ cnt c
    · rw [if_pos k1, Bool.and_eq_true] at h
      have : t.2.1 = 2 := by simpa using h.1
      omega
    · rw [if_neg k1] at h
      have : t.2.1 = 3 := by simpa using h
      omega
theorem due_Y (hp : p ≤ n) {h : Hp} {k : Nat} {x : Int32} (t : TY h n bt) (sy : SY bt n p L P b h k) (hx : flt bt n p L P b k = none → (x = 0 ↔ okR L P b (vl bt n p 0) (vl bt n p 1) k (tkN bt n p k) = false)) : ∃ g, X5_due x h = some (h.1 20 11, g) ∧ Ch 20 JD h g ∧ SY bt n p L P b g (k + 1) := by
  have n2 := t.1
  unfold X5_due
  cases ef : flt bt n p L P b k with
  | some s =>
    have s2 := flt_le hp k s ef
    rw [sy.2 s ef, if_neg (nI_m9 (by omega))]
    refine ⟨h, rfl, Ch.rf h, fun z => ?_, fun s3 z => ?_⟩
    · rw [flt_s ef 1] at z; cases z
    · rw [flt_s ef 1] at z; cases z; exact sy.2 s ef
  | none =>
    obtain ⟨e12, k1, k2, k3, k4⟩ := sy.1 ef
    have hn := flt_n ef
    rw [e12, if_pos rfl]
    cases eo : okR L P b (vl bt n p 0) (vl bt n p 1) k (tkN bt n p k) with
    | false =>
      rw [eo] at hn
      rw [if_pos ((hx ef).mpr eo)]
      refine ⟨_, rfl, (Ch.rf h).s (k := 12) _ (by decide), fun z => ?_, fun s3 z => ?_⟩
      · rw [hn] at z; cases z
      · rw [hn] at z; cases z; exact k1
    | true =>
      rw [eo] at hn
      rw [if_neg (fun z => by have := (hx ef).mp z; rw [eo] at this; cases this)]
      obtain ⟨g, eg, xg, kg⟩ := next_Y t (ps_le hp (k + 1)) (k4 (okR4 eo))
      rw [eg, bind_some']
      refine ⟨g, rfl, xg.mono (fun j z => by show 8 ≤ j ∧ j ≤ 12; omega), fun z => ⟨?_, kg⟩, fun s3 z => ?_⟩
      · rw [xg.pl (by decide)]; exact e12
      · rw [hn] at z; cases z
theorem num_Y (hp : p ≤ n) {h : Hp} {i : Nat} {lo hi : Int32} (hc : i < cnt (vl bt n p 0)) (t : TY h n bt) (sy : SY bt n p L P b h (i + 1)) (hx : flt bt n p L P b (i + 1) = none → (tkN bt n p (i + 1)).2.1 = 2 → vl bt n p (i + 1) ≤ 99 → ((lo ≤ nI (vl bt n p (i + 1)) ∧ nI (vl bt n p (i + 1)) ≤ hi) ↔ okV (vl bt n p 0) P (vl bt n p 1) i (vl bt n p (i + 1)) = true)) : ∃ w g, X5_number lo hi h = some (w, g) ∧ Ch 20 JD h g ∧ SY bt n p L P b g (i + 2) ∧ (flt bt n p L P b (i + 2) = none → w = nI (vl bt n p (i + 1))) := by
  have tin : _ := tok_in bt (ps_le hp (i + 1) : psN bt n p (i + 1) ≤ n)
  have tin2 : (tkN bt n p (i + 1)).2.1 = 2 → vl bt n p (i + 1) ≤ 99 := tin.2.2.2.1
  obtain ⟨v, v1, v2, v3, v4, v5, v6⟩ := srt_cases (t := tkN bt n p (i + 1)) tin.2.2.2.2.1 tin.2.2.2.2.2
  have key : ∃ x, X5_number lo hi h = b2 (X5_due x h) (fun v g => some (v, g)) ∧ (flt bt n p L P b (i + 1) = none → (x = 0 ↔ okR L P b (vl bt n p 0) (vl bt n p 1) (i + 1) (tkN bt n p (i + 1)) = false)) := by
    have okr : okR L P b (vl bt n p 0) (vl bt n p 1) (i + 1) (tkN bt n p (i + 1)) = ((tkN bt n p (i + 1)).2.1 == 2 && okV (vl bt n p 0) P (vl bt n p 1) i (vl bt n p (i + 1))) := by
      unfold okR
      rw [if_neg (by omega), if_pos (by omega)]
      rfl
    rw [okr]
    unfold X5_number X5_number_b25 X5_number_b26
    by_cases s1 : h.1 20 10 = 1
    · rw [if_pos s1, X5_in_eq, b2_some]
      by_cases rr : lo ≤ h.1 20 11 ∧ h.1 20 11 ≤ hi
      · rw [if_pos rr, if_neg (by decide)]
        refine ⟨1, rfl, fun ef => ⟨fun z => absurd z (by decide), fun z => ?_⟩⟩
        obtain ⟨e12, k1, k2, k3, k4⟩ := sy.1 ef
        rw [s1, v2] at k2
        have kd : (tkN bt n p (i + 1)).2.1 = 2 := v3.mp ((nI_eq (a := 1) (by omega) (by omega)).mp k2).symm
        rw [k3 kd] at rr
        rw [kd, (hx ef kd (tin2 kd)).mp rr] at z
        cases z
      · rw [if_neg rr, if_pos rfl]
        refine ⟨0, rfl, fun ef => ⟨fun _ => ?_, fun _ => rfl⟩⟩
        obtain ⟨e12, k1, k2, k3, k4⟩ := sy.1 ef
        rw [s1, v2] at k2
        have kd : (tkN bt n p (i + 1)).2.1 = 2 := v3.mp ((nI_eq (a := 1) (by omega) (by omega)).mp k2).symm
        rw [k3 kd] at rr
        rw [kd]
        cases eo : okV (vl bt n p 0) P (vl bt n p 1) i (vl bt n p (i + 1)) with
        | false => rfl
        | true => exact absurd ((hx ef kd (tin2 kd)).mpr eo) rr
    · rw [if_neg s1]
      refine ⟨0, rfl, fun ef => ⟨fun _ => ?_, fun _ => rfl⟩⟩
      obtain ⟨e12, k1, k2, k3, k4⟩ := sy.1 ef
      rw [k2, v2] at s1
      have kd : ¬ (tkN bt n p (i + 1)).2.1 = 2 := fun z => s1 (by rw [v3.mpr z]; rfl)
      rw [show ((tkN bt n p (i + 1)).2.1 == 2) = false by simpa using kd]
      rfl
  obtain ⟨x, ex, hx2⟩ := key
  obtain ⟨g, eg, xg, sg⟩ := due_Y hp t sy hx2
  refine ⟨_, g, by rw [ex, eg, b2_some], xg, sg, fun z => ?_⟩
  obtain ⟨a1, -⟩ := flt_ok z
  have kd := (flt_num hc z).1
  exact (sy.1 a1).2.2.2.1 kd
/-! a PIECE's row -/
def WY (P : Nat) (h g : Hp) : Prop := (∀ o, o ≠ 20 → o ≠ 25 → g.1 o = h.1 o) ∧ (∀ j, ¬ JD j → g.1 20 j = h.1 20 j) ∧ (∀ j, j < 50 + 5 * P → g.1 25 j = h.1 25 j) ∧ g.2 = h.2
theorem WY.tr {P : Nat} {a b c : Hp} (x : WY P a b) (y : WY P b c) : WY P a c := ⟨fun o h1 h2 => (y.1 o h1 h2).trans (x.1 o h1 h2), fun j q => (y.2.1 j q).trans (x.2.1 j q), fun j q => (y.2.2.1 j q).trans (x.2.2.1 j q), y.2.2.2.trans x.2.2.2⟩
theorem WY.fr {P : Nat} {a b : Hp} (x : WY P a b) : Fr a b := ⟨fun o j z => by
  by_cases e1 : o = 20
  · subst e1
    refine x.2.1 j (fun q => ?_)
    have z : ((decide (8 ≤ j) && decide (j ≤ 13)) || (decide (17 ≤ j) && decide (j ≤ 22))) = false := z
    simp at z
    omega
  · by_cases e3 : o = 25
    · subst e3
      have z : decide (50 ≤ j) = false := z
      simp at z
      exact x.2.2.1 j (by omega)
    · rw [x.1 o e1 e3], x.2.2.2⟩
theorem WY.ty {P : Nat} {a b : Hp} (x : WY P a b) (t : TY a n bt) : TY b n bt := t.of (x.2.1 2 (by decide)) (x.1 21 (by decide) (by decide))
def ST (bt : Nat → Nat) (n p L P b : Nat) (h : Hp) (i : Nat) : Prop := ∀ j, j < i → flt bt n p L P b (j + 2) = none → h.1 25 (50 + 5 * P + j) = nI (vl bt n p (j + 1))
theorem wstep {h g : Hp} {i : Nat} {w : Int32} (hP : P < 10) (hi : i < 5) (t : TY h n bt) (st0 : ST bt n p L P b h i) (xg : Ch 20 JD h g) (sg : SY bt n p L P b g (i + 2)) (hw : flt bt n p L P b (i + 2) = none → w = nI (vl bt n p (i + 1))) : ∃ g2, st g 25 100 (nI (50 + 5 * P + i)) w = some g2 ∧ TY g2 n bt ∧ SY bt n p L P b g2 (i + 2) ∧ ST bt n p L P b g2 (i + 1) ∧ WY P h g2 := by
  refine ⟨sI g 25 (50 + 5 * P + i) w, st_nI (by omega) (by omega), ?_, sg.of ?_, ?_, ?_⟩
  · exact (t.ch xg (by decide)).of rfl rfl
  · rw [sI_row, if_neg (by decide)]
  · intro j hj ef
    rw [sI_row, if_pos rfl]
    unfold upd
    by_cases e : j = i
    · subst e; rw [if_pos rfl]; exact hw ef
    · rw [if_neg (by omega), xg.row (by decide)]; exact st0 j (by omega) ef
  · refine ⟨fun o h1 h2 => ?_, fun j qj => ?_, fun j qj => ?_, xg.2⟩
    · rw [sI_row, if_neg h2]; exact xg.row h1
    · rw [sI_row, if_neg (by decide)]; exact xg.pl qj
    · rw [sI_row, if_pos rfl]
      unfold upd
      rw [if_neg (by omega), xg.row (by decide)]
theorem in_iff {v lo hi : Nat} (h1 : v < 2 ^ 31) (h2 : lo < 2 ^ 31) (h3 : hi < 2 ^ 31) : (nI lo ≤ nI v ∧ nI v ≤ nI hi) ↔ (lo ≤ v ∧ v ≤ hi) := by rw [nI_leI h2 h1, nI_leI h1 h3]
theorem okV_w {P a i v : Nat} : okV 119 P a i v = if i = 0 then decide (1 ≤ v ∧ v ≤ 12) else if i = 1 then decide (0 ≤ v ∧ v ≤ 9) else if i = 2 then decide (v < P ∨ v = 99) else if i = 3 then decide (0 ≤ v ∧ v ≤ 12) else decide (v < a) := by
  unfold okV
  rw [if_neg (by omega), if_neg (by omega)]
theorem piece_Y (hp : p ≤ n) (hP : P < 10) (c : vl bt n p 0 = 119) {h : Hp} (t : TY h n bt) (sy : SY bt n p L P b h 1) (eP : h.1 24 1 = nI P) : ∃ g, X5_readRow (nI 119) h = some (sI g 24 1 (nI (P + 1))) ∧ TY g n bt ∧ SY bt n p L P b g 6 ∧ ST bt n p L P b g 5 ∧ WY P h g := by
  have ct : cnt (vl bt n p 0) = 5 := by unfold cnt; rw [if_pos c]
  unfold X5_readRow
  rw [if_neg (by decide), if_pos (show nI 119 = (119 : Int32) from rfl), eP]
  obtain ⟨w0, g0, e0, x0, s0, v0⟩ := num_Y (lo := 1) (hi := 12) hp (i := 0) (by omega) t sy (fun _ _ v9 => by
    rw [c, okV_w, if_pos rfl]
    exact (in_iff (lo := 1) (hi := 12) (by omega) (by omega) (by omega)).trans (by simp))
  obtain ⟨h1, f1, t1, s1, st1, y1⟩ := wstep (i := 0) hP (by omega) t (fun j hj => by omega) x0 s0 v0
  have ex : (50 : Int32) + 5 * nI P = nI (50 + 5 * P) := by rw [i5, pk_mul, i50, nI_add]
  rw [e0, b2_some, ex, show nI (50 + 5 * P) + (0 : Int32) = nI (50 + 5 * P + 0) by rw [i0, nI_add], f1, bind_some']
  obtain ⟨w1, g1, e1, x1, s1, v1⟩ := num_Y (lo := 0) (hi := 9) hp (i := 1) (by omega) t1 s1 (fun _ _ v9 => by
    rw [c, okV_w, if_neg (by omega), if_pos rfl]
    exact (in_iff (lo := 0) (hi := 9) (by omega) (by omega) (by omega)).trans (by simp))
  obtain ⟨h2, f2, t2, s2, st2, y2⟩ := wstep (i := 1) hP (by omega) t1 st1 x1 s1 v1
  have y12 := y1.tr y2
  rw [e1, b2_some, show nI (50 + 5 * P) + (1 : Int32) = nI (50 + 5 * P + 1) by rw [i1, nI_add], f2, bind_some', show h2.1 24 1 = nI P by rw [y12.1 24 (by decide) (by decide)]; exact eP]
  -- the third number
  have tin : _ := tok_in bt (ps_le hp 3 : psN bt n p 3 ≤ n)
  have tin2 : (tkN bt n p 3).2.1 = 2 → vl bt n p 3 ≤ 99 := tin.2.2.2.1
  obtain ⟨v, va, vb, vc, -⟩ := srt_cases (t := tkN bt n p 3) tin.2.2.2.2.1 tin.2.2.2.2.2
  have okr : okR L P b (vl bt n p 0) (vl bt n p 1) 3 (tkN bt n p 3) = ((tkN bt n p 3).2.1 == 2 && decide (vl bt n p 3 < P ∨ vl bt n p 3 = 99)) := by
    unfold okR
    rw [if_neg (by omega), if_pos (by omega), c, okV_w]
    rfl
  have e2x : nI (50 + 5 * P) + (2 : Int32) = nI (50 + 5 * P + 2) := by rw [i2, nI_add]
  have e3x : nI (50 + 5 * P) + (3 : Int32) = nI (50 + 5 * P + 3) := by rw [i3, nI_add]
  have e4x : nI (50 + 5 * P) + (4 : Int32) = nI (50 + 5 * P + 4) := by rw [i4, nI_add]
  have tail : ∀ x : Int32, (flt bt n p L P b 3 = none → (x = 0 ↔ okR L P b (vl bt n p 0) (vl bt n p 1) 3 (tkN bt n p 3) = false)) → ∃ g, X5_readRow_b133 (nI (50 + 5 * P)) w0 (nI (50 + 5 * P + 2)) x h2 = some (sI g 24 1 (nI (P + 1))) ∧ TY g n bt ∧ SY bt n p L P b g 6 ∧ ST bt n p L P b g 5 ∧ WY P h g := by
    intro x hx
    obtain ⟨g2, e2, x2, s3⟩ := due_Y hp t2 s2 hx
    obtain ⟨h3, f3, t3, s3, st3, y3⟩ := wstep (i := 2) hP (by omega) t2 st2 x2 s3 (fun z => by
      obtain ⟨a1, -⟩ := flt_ok z
      exact (s2.1 a1).2.2.2.1 (flt_num (k := 2) (by omega) z).1)
    unfold X5_readRow_b133
    rw [e2, b2_some, f3, bind_some']
    obtain ⟨w3, g3, e3, x3, s4, v3⟩ := num_Y (lo := 0) (hi := 12) hp (i := 3) (by omega) t3 s3 (fun _ _ v9 => by
      rw [c, okV_w, if_neg (by omega), if_neg (by omega), if_neg (by omega), if_pos rfl]
      exact (in_iff (lo := 0) (hi := 12) (by omega) (by omega) (by omega)).trans (by simp))
    obtain ⟨h4, f4, t4, s4, st4, y4⟩ := wstep (i := 3) hP (by omega) t3 st3 x3 s4 v3
    rw [e3, b2_some, e3x, f4, bind_some']
    obtain ⟨w4, g4, e4, x4, s5, v4⟩ := num_Y (lo := 0) (hi := w0 - 1) hp (i := 4) (by omega) t4 s4 (fun ef _ v9 => by
      have ef2 : flt bt n p L P b (0 + 2) = none := flt_b (d := 3) ef
      have a99 : vl bt n p (0 + 1) ≤ 99 := (tok_in bt (ps_le hp 1 : psN bt n p 1 ≤ n)).2.2.2.1 (flt_num (k := 0) (by omega) ef2).1
      rw [v0 ef2, c, okV_w, if_neg (by omega), if_neg (by omega), if_neg (by omega), if_neg (by omega), ix_iff (by omega)]
      unfold isIx
      rw [nI_toInt (by omega)]
      simp only [decide_eq_true_eq]
      show (0 ≤ (vl bt n p 5 : Int) ∧ (vl bt n p 5 : Int) < (vl bt n p 1 : Int)) ↔ vl bt n p 5 < vl bt n p 1
      omega)
    obtain ⟨h5, f5, t5, s5, st5, y5⟩ := wstep (i := 4) hP (by omega) t4 st4 x4 s5 v4
    have yy := ((y12.tr y3).tr y4).tr y5
    rw [e4, b2_some, e4x, f5, bind_some', show h5.1 24 1 = nI P by rw [yy.1 24 (by decide) (by decide)]; exact eP, i1, nI_add]
    exact ⟨h5, rfl, t5, s5, st5, yy⟩
  unfold X5_readRow_b128 X5_readRow_b132
  rw [e2x]
  by_cases q1 : h2.1 20 10 = 1
  · rw [if_pos q1]
    have kd : flt bt n p L P b 3 = none → (tkN bt n p 3).2.1 = 2 ∧ h2.1 20 11 = nI (vl bt n p 3) := fun ef => by
      obtain ⟨e12, k1, k2, k3, k4⟩ := s2.1 ef
      rw [q1, vb] at k2
      have kd : (tkN bt n p 3).2.1 = 2 := vc.mp ((nI_eq (a := 1) (by omega) (by omega)).mp k2).symm
      exact ⟨kd, k3 kd⟩
    by_cases q2 : h2.1 20 11 < nI P
    · rw [if_pos q2]
      refine tail 1 (fun ef => ⟨fun z => absurd z (by decide), fun z => ?_⟩)
      obtain ⟨a1, a2⟩ := kd ef
      have a3 := tin2 a1
      rw [a2, nI_ltI (by omega) (by omega)] at q2
      rw [okr, a1, decide_eq_true (Or.inl q2 : vl bt n p 3 < P ∨ vl bt n p 3 = 99)] at z
      cases z
    · rw [if_neg q2]
      by_cases q3 : h2.1 20 11 = 99
      · rw [if_pos q3]
        refine tail 1 (fun ef => ⟨fun z => absurd z (by decide), fun z => ?_⟩)
        obtain ⟨a1, a2⟩ := kd ef
        have a3 := tin2 a1
        rw [a2] at q3
        have q3 : vl bt n p 3 = 99 := (nI_eq (b := 99) (by omega) (by omega)).mp q3
        rw [okr, a1, decide_eq_true (Or.inr q3 : vl bt n p 3 < P ∨ vl bt n p 3 = 99)] at z
        cases z
      · rw [if_neg q3]
        refine tail 0 (fun ef => ⟨fun _ => ?_, fun _ => rfl⟩)
        obtain ⟨a1, a2⟩ := kd ef
        have a3 := tin2 a1
        rw [a2, nI_ltI (by omega) (by omega)] at q2
        rw [a2] at q3
        have q3 : ¬ vl bt n p 3 = 99 := fun z => q3 (by rw [z]; rfl)
        rw [okr, a1, decide_eq_false (by omega : ¬ (vl bt n p 3 < P ∨ vl bt n p 3 = 99))]
        rfl
  · rw [if_neg q1]
    refine tail 0 (fun ef => ⟨fun _ => ?_, fun _ => rfl⟩)
    obtain ⟨e12, k1, k2, k3, k4⟩ := s2.1 ef
    rw [k2, vb] at q1
    have kd : ¬ (tkN bt n p 3).2.1 = 2 := fun z => q1 (by rw [vc.mpr z]; rfl)
    rw [okr, show ((tkN bt n p 3).2.1 == 2) = false by simpa using kd]
    rfl
end
