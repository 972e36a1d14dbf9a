abbrev rmX4_trace : Room := { frames := 0, cells := 0, slots := 0, locals := 0 }
set_option maxRecDepth 20000 in
theorem ct_X4_trace (l : Launch) {h hf : Hp} {r : Int64} (hs : X4_trace h = some (r, hf)) : Ct l yX4_trace (Cond.code yX4_trace cX4_trace 1 (some .long) :: wsG) rmX4_trace [.ref 0] h (some (.long r)) hf := by
  refine Ct.of (by decide +kernel) (fun _ => Nat.le_of_ble_eq_true rfl) (fun k C T => ?_)
  unfold X4_trace at hs
  show V k rmX4_trace 1 0 [(0, .ref 0)] [] h
  refine V.aload_n (pc := 0) C dX4_trace_0 0 rfl ?_
  refine V.getf (pc := 1) C (o := 0) (j := 11) (v := .long (h.2 0 11)) (by decide) rfl rfl inX4 (by decide) (by decide) wf_206 rfl dX4_trace_1 ?_
  exact V.lret (pc := 4) C T hs dX4_trace_4
