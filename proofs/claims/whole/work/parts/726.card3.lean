/-! card -/
theorem TY.fr {h g : Hp} {n : Nat} {bt : Nat → Nat} (f : Fr h g) (t : TY h n bt) : TY g n bt := t.of (f.1 20 2 rfl) (f.row 21 fun _ => rfl)
theorem card_start {h : Hp} {n : Nat} {bt : Nat → Nat} (t : TY h n bt) : ∃ g, X5_card h = X5_card_l43 fu (nI 0) g ∧ Fr h g ∧ TY g n bt ∧ DY g 0 0 1 0 (fun _ => 0) (fun _ _ => 0) ∧ g.1 20 12 = -9 ∧ TKY g (tok bt n 0) := by
  obtain ⟨h0, e0⟩ : ∃ h0, h0 = sI (sI (sI (sI (sI (sI h 20 8 (0 : Int32)) 20 12 (-9 : Int32)) 20 13 (0 : Int32)) 22 1 (0 : Int32)) 24 1 (0 : Int32)) 26 1 (1 : Int32) := ⟨_, rfl⟩
  have f0 : Fr h h0 := by
    rw [e0]
    exact ((((((Fr.rf h).s 20 8 _ rfl).s 20 12 _ rfl).s 20 13 _ rfl).s 22 1 _ rfl).s 24 1 _ rfl).s 26 1 _ rfl
  have t0 := t.fr f0
  have d0 : DY h0 0 0 1 0 (fun _ => 0) (fun _ _ => 0) := by
    rw [e0]
    exact ⟨rfl, rfl, rfl, rfl, fun l hl => by omega, fun w hw => by omega⟩
  have e12 : h0.1 20 12 = -9 := by rw [e0]; rfl
  obtain ⟨g, eg, xg, kg⟩ := next_Y t0 (Nat.zero_le n) (show h0.1 20 8 = nI 0 by rw [e0]; rfl)
  have xg' : Ch 20 JD h0 g := xg.mono (fun j z => by show 8 ≤ j ∧ j ≤ 12; omega)
  refine ⟨g, ?_, f0.tr (xg'.fr (fun j => JD_sc)), t0.ch xg (by decide), d0.ch xg', by rw [xg.pl (by decide)]; exact e12, kg⟩
  unfold X5_card
  rw [← e0, eg, bind_some']
  rfl
theorem ok_card : OK X4_card X5_card := by
  intro h ⟨L, P, Z, wd, q, R⟩
  obtain ⟨k, cx, cy, ⟨n, n1, n2, n3, n4⟩, d, i, s, z⟩ := id R
  obtain ⟨bt, ebt⟩ : ∃ bt : Nat → Nat, bt = fun i => (h.1 2 i).toInt.toNat := ⟨_, rfl⟩
  have b4 : ∀ i, i < n → bt i < 256 ∧ h.1 2 i = nI (bt i) ∧ h.1 21 i = (nI (bt i)).toInt8.toInt32 := by
    intro i hi
    obtain ⟨c, c1, c2, c3⟩ := n4 i hi
    have : bt i = c := by
      rw [ebt]
      show (h.1 2 i).toInt.toNat = c
      rw [c2, nI_toInt (by omega)]
      omega
    rw [this]
    exact ⟨c1, c2, c3⟩
  have tx : TX h n bt := ⟨n1, n2, fun i hi => (b4 i hi).2.1, fun i hi => (b4 i hi).1⟩
  have ty : TY h n bt := ⟨n1, n3, fun i hi => (b4 i hi).2.2, fun i hi => (b4 i hi).1⟩
  obtain ⟨h0, e0⟩ : ∃ h0, h0 = sI (sI (sI (sI (sI (sI h 7 2 (0 : Int32)) 7 3 (0 : Int32)) 7 4 (1 : Int32)) 1 6 (0 : Int32)) 1 4 (0 : Int32)) 1 3 (0 : Int32) := ⟨_, rfl⟩
  have f0 : Fr h h0 := by
    rw [e0]
    exact ((((((Fr.rf h).s 7 2 _ rfl).s 7 3 _ rfl).s 7 4 _ rfl).s 1 6 _ rfl).s 1 4 _ rfl).s 1 3 _ rfl
  have tx0 : TX h0 n bt := ⟨n1, by rw [f0.1 1 2 rfl]; exact n2, by rw [f0.row 2 fun _ => rfl]; exact tx.2.2.1, tx.2.2.2⟩
  have dx0 : DX h0 0 0 1 0 (fun _ => 0) (fun _ _ => 0) := by
    rw [e0]
    exact ⟨rfl, rfl, rfl, rfl, fun l hl => by omega, fun w hw => by omega⟩
  have kz : Cok 0 0 1 (fun _ => 0) (fun _ _ => 0) := ⟨by omega, by omega, by omega, by omega, fun l hl => by omega, fun w hw => by omega⟩
  have et : X2_tellTo h = X2_tellTo_l19 fu h0 := by
    unfold X2_tellTo X3_erase_7
    rw [bind_some', ← e0]
  obtain ⟨gx, fx, o⟩ := card_loop (n := n) (bt := bt) 201 0 (by omega) (Nat.zero_le n) 0 0 1 0 (fun _ => 0) (fun _ _ => 0) kz (by omega) 0 rfl h0 tx0 dx0 (by rw [e0]; rfl) (by rw [e0]; rfl) fu (fu_pos (by omega))
  have fhx := f0.tr fx
  rcases o with ⟨s, s1, s2, s3⟩ | ⟨L', P', Z', b', wd', q', it, it1, k', ex, dx, e13, s3⟩
  · obtain ⟨g1, e1, f1, t1, d1, a1, a2⟩ := card_start (ty.fr fhx)
    obtain ⟨gy, fy, ey⟩ := s3 g1 fu (fu_pos (by omega)) t1 d1 a1 a2
    refine ⟨-10 - nI s, gx, gy, ?_, e1.trans ey, L, P, Z, wd, q, R.fr ((fhx.tr f1).tr fy)⟩
    unfold X4_card
    rw [et, s2, b2_some, if_neg (nI_m1 (by omega))]
  · obtain ⟨gX, eX, cX, x12, c1, c2, c3, c4, c5, c7, x07, x010, xo, x2⟩ := end_X k' dx e13
    have tX : TY gX n bt := (ty.fr fhx).of (by rw [xo 20 (by omega)]) (xo 21 (by omega))
    obtain ⟨g1, e1, f1, t1, d1, a1, a2⟩ := card_start tX
    obtain ⟨gy, fy, ey, ey12, dy⟩ := s3 g1 fu (fu_pos (by omega)) t1 d1 a1 a2
    obtain ⟨g, eg, cg, y0, y1, y2, y3, y4, y5, y26, y280, y281, y20, yo, yt⟩ := end_Y k' (nI it) ey12 dy
    have f := f1.tr fy
    refine ⟨nI it, gX, g, ?_, (e1.trans ey).trans eg, L', P', Z', wd', q', k', ?_, cg, ?_, ?_, ?_, ?_, ?_⟩
    · unfold X4_card
      rw [et, ex, b2_some, if_pos rfl]
      exact eX
    · exact cX.of (fun j _ => by rw [yo 4 (by omega), f.1 4 j rfl]) (by rw [yo 5 (by omega), f.row 5 fun _ => rfl]) (by rw [yo 6 (by omega), f.row 6 fun _ => rfl])
    · exact ⟨0, by omega, by rw [yo 1 (by omega), f.1 1 2 rfl]; exact x12, y20, fun i hi => by omega⟩
    · have r12 : ∀ j, g.1 12 j = gX.1 12 j := fun j => by rw [yo 12 (by omega), f.1 12 j rfl]
      refine ⟨fun j hj => ?_, ⟨⟨0, by omega, y0⟩, ⟨0, by omega, y1⟩, ⟨5, by omega, by omega, y3⟩, 0, by omega, y4⟩, 0, by omega, by rw [r12]; exact c7, y5, fun i hi => by omega⟩
      rw [r12, Nat.zero_add]
      have : j = 0 ∨ j = 1 ∨ j = 2 ∨ j = 3 ∨ j = 4 := by omega
      rcases this with e | e | e | e | e <;> subst e
      · rw [y0]; exact c1
      · rw [y1]; exact c2
      · rw [y2]; exact c3
      · rw [y3]; exact c4
      · rw [y4]; exact c5
    · exact ⟨0, 0, by omega, by omega, by rw [yo 0 (by omega), f.1 0 7 rfl]; exact x07, y280, y281, fun z => by omega, fun z => by omega⟩
    · exact ⟨0, by omega, by rw [yo 0 (by omega), f.1 0 10 rfl]; exact x010, y26, fun i hi => by omega⟩
    · unfold TrR
      rw [yt, f.2, x2, fhx.2]
      exact z
