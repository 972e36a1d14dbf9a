/-! THE CLAIM OUT OF ONE WALK OF THE LAW'S BODY. Your part is whole_start (and what it stands on); all else here is the same for every law, but numbers. -/
def R_law : String := "EdgeOfCardLaw"
def lw_P (b : Addr) (xs : List Int32) (args : Array Value) (s : State) : Prop := args = #[.ref b] ∧ s.IntsAt b xs ∧ xs.length ≤ 256 ∧ (Jvm.Cond.and given_1 narrow_1).before args s = true
def lw_Q (_ : Array Value) (s : State) (o : Outcome) (t : State) : Prop := o = .returned (some (.int 1)) ∧ Framed s o t [] 34 1158
def lw_Z (below : List Frame) (a : Array Value) (s : State) : State → Prop := fun t => ∃ o, t.status = .running ∧ Ended t below o ∧ lw_Q a s o t
/-- the law's own end, with 1 on the stack, nothing written that was there before, its room as the claim has it -/
theorem lw_ret {p : Program} {l : Launch} {e : Env} {s : State} {m : MethodId} {below : List Frame} {meth : Method} {c : Code} {b : Nat} (hx : p.tables.exec = Jvm.exec) (hb : c.code = code) (hr : meth.sig.returnType = ret) (hlocks : meth.locks = false) {pc : Nat} {H : Heap} {ls : Array Slot} (hdg : decode code pc = .ok (.ireturn, 1)) : W p l e room_1 s m #[Value.ref b] below meth c H [] 34 1158 (lw_Z below #[Value.ref b] s) (F0 m pc ls [.int 1]) := by
  intro T hT X
  obtain ⟨fs, hret, hrun, hended, hW, hframe⟩ := X.leave (v := some (.int 1)) (hlocks := hlocks) (fun h => by rw [hr] at h; cases h)
  have hmeth' : T.vm.method? m = some meth := X.method'
  refine ⟨T.setFrames fs, ?_, .returned (some (.int 1)), hrun, hended, rfl, ⟨_, rfl⟩, hW, hframe⟩
  jvm_step X.here [X.here.top, hx, hb, hdg, hmeth', hr, ret, narrow_b1]
  (try refine ⟨rfl, ?_⟩); (try refine ⟨rfl, ?_⟩)
  first | (intro acts; rw [hret _ acts rfl rfl rfl]) | rw [hret _ _ rfl rfl rfl]
  exact Steps.refl _
/-- what holds at the law's entry: the machine, the code, the tables' words (any of lw_tbl by 'hts w (by decide +kernel)'), the script of L ints xs at the cell b, what the Statement gives of the start (any of its parts by flat_of_before) -/
def lw_At (p : Program) (s : State) (m : MethodId) (meth : Method) (c : Code) (b L : Nat) (xs : Nat → Int32) : Prop :=
  p.tables.exec = Jvm.exec ∧ c.code = code ∧ meth.sig.returnType = ret ∧ c.maxLocals = 4 ∧ s.vm.findClass R_law = some m.cls ∧ (∀ w ∈ lw_tbl, w.before #[Value.ref b] s = true) ∧ va_X b L xs s s.heap ∧ b < s.heap.size ∧ meth.locks = false ∧ (Jvm.Cond.and given_1 narrow_1).before #[Value.ref b] s = true

def lsc (xs : Nat → Int32) (L : Nat) (i : Int32) : Option Int32 := if i < 0 ∨ L ≤ i.toNatClampNeg then none else some (xs i.toNatClampNeg)
theorem o_lsc {β : Type} {xs : Nat → Int32} {L : Nat} {i : Int32} {f : Int32 → Option β} {y : β} (e : (lsc xs L i).bind f = some y) : ∃ v, xs i.toNatClampNeg = v ∧ ¬ (i < 0 ∨ L ≤ i.toNatClampNeg) ∧ f v = some y := by
  unfold lsc at e
  by_cases c : i < 0 ∨ L ≤ i.toNatClampNeg
  · rw [if_pos c] at e; cases e
  · rw [if_neg c] at e; exact ⟨_, rfl, c, e⟩
/-- the script, as our cell 34 -/
def Lx (k : KX) (xs : Nat → Int32) (L : Nat) : Prop := va_X (kAd k 34) L xs (kS k) (kS k).heap ∧ kAd k 34 < (kS k).heap.size ∧ ¬ kF k (kAd k 34)
def Lt (k : KX) : Prop := kQ k = lw_Z (kB k) (kA k) (kS k) ∧ kA k = #[Value.ref (kAd k 34)] ∧ (kMe k).sig.returnType = ret ∧ (kMe k).locks = false ∧ kCe k = 34 ∧ kSl k = 1158 ∧ kF k = fun q => (kS k).heap.size ≤ q
theorem V.slen {k : KX} {cc : ByteArray} {own : String} {nL : Nat} {Rm : Room} {pc : Nat} {lv : List (Nat × Value)} {st : List Value} {h : Hp} (C : Cx k cc own nL Rm) {xs : Nat → Int32} {L : Nat} (X : Lx k xs L) (d : decode cc pc = .ok (.arraylength, 1)) (g : V k Rm nL (pc + 1) lv (.int (Int32.ofNat L) :: st) h) : V k Rm nL pc lv (.ref 34 :: st) h := by
  intro H locs ls hl hP hS
  exact va_slen C.1 C.2.1 X.1 X.2.1 X.2.2 hS d (g H locs ls hl hP hS)
theorem V.sld {k : KX} {cc : ByteArray} {own : String} {nL : Nat} {Rm : Room} {pc : Nat} {lv : List (Nat × Value)} {st : List Value} {h : Hp} (C : Cx k cc own nL Rm) {xs : Nat → Int32} {L : Nat} (X : Lx k xs L) {i v : Int32} (hin : ¬ (i < 0 ∨ L ≤ i.toNatClampNeg)) (hv : xs i.toNatClampNeg = v) (d : decode cc pc = .ok (.iaload, 1)) (g : V k Rm nL (pc + 1) lv (.int v :: st) h) : V k Rm nL pc lv (.int i :: .ref 34 :: st) h := by
  subst hv
  intro H locs ls hl hP hS
  exact va_sld C.1 C.2.1 X.1 X.2.1 X.2.2 hS hin d (g H locs ls hl hP hS)
theorem V.lawret {k : KX} {pc : Nat} {lv : List (Nat × Value)} {h hf : Hp} {x : Int32} (C : Cx k cL_law RL 4 room_1) (T : Lt k) (hs : some (x, h) = some ((1 : Int32), hf)) (d : decode cL_law pc = .ok (.ireturn, 1)) : V k room_1 4 pc lv [.int x] h := by
  cases hs
  intro H locs ls hl hP hS
  obtain ⟨t1, t2, t3, t4, t5, t6, t7⟩ := T
  refine va_forget (fun q hq => ?_) ?_
  · have := hS.2.2 q hq
    rw [t7] at this
    exact this
  rw [t1, t2, t5, t6]
  exact lw_ret C.1 C.2.1 t3 t4 d
