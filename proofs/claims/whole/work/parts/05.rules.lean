/-! the 34 cells as the machine has them -/
def tr (ad : Nat → Nat) (v : Value) : Value := match v with
  | .ref a => .ref (ad a)
  | .int x => .int x
  | .long x => .long x
  | .float x => .float x
  | .double x => .double x
  | .null => .null
  | .retAddr x => .retAddr x
theorem tr_cat (ad : Nat → Nat) (v : Value) : (tr ad v).category = v.category := by cases v <;> rfl
def oC (o : Nat) : Option Nat := match o with
  | 0 => some 4
  | 1 => some 2
  | 4 => some 3
  | 7 => some 3
  | 10 => some 0
  | 12 => some 1
  | 14 => some 1
  | 16 => some 1
  | 20 => some 5
  | _ => none
def aT (o : Nat) : Nat × Nat := match o with
  | 2 => (0, 200)
  | 3 => (0, 5)
  | 5 => (0, 6)
  | 6 => (0, 50)
  | 8 => (0, 6)
  | 9 => (0, 50)
  | 11 => (0, 10)
  | 13 => (0, 60)
  | 15 => (0, 60)
  | 17 => (0, 60)
  | 18 => (0, 6)
  | 19 => (0, 6)
  | 21 => (1, 200)
  | 22 => (0, 2)
  | 23 => (0, 12)
  | 24 => (0, 2)
  | 25 => (0, 100)
  | 26 => (0, 2)
  | 27 => (0, 198)
  | 28 => (2, 2)
  | 29 => (0, 6)
  | 30 => (0, 10)
  | 31 => (0, 6)
  | 32 => (0, 6)
  | 33 => (0, 6)
  | _ => (0, 0)
def fD (o : Nat) : List (Option (Option Nat)) := match o with
  | 0 => [some (some 1), some (some 4), some (some 7), some (some 10), some (some 12), some (some 14), some (some 16), some none, some (some 18), some (some 19), some none, none]
  | 1 => [some (some 2), some (some 3), some none, some none, some none, some none, some none, some none, some none]
  | 4 => [some (some 5), some (some 6), some none, some none, some none]
  | 7 => [some (some 8), some (some 9), some none, some none, some none]
  | 10 => [some (some 4), some (some 11), some none, some none, some none]
  | 12 => [some (some 4), some none, some none, some none, some none, some none, some (some 13), some none]
  | 14 => [some (some 4), some none, some none, some none, some none, some none, some (some 15), some none]
  | 16 => [some (some 4), some none, some none, some none, some none, some none, some (some 17), some none]
  | 20 => [none, some (some 21), some none, some (some 22), some (some 23), some (some 24), some (some 25), some (some 26), some none, some none, some none, some none, some none, some none, some (some 27), some (some 28), some (some 29), some none, some none, some (some 30), some none, some none, some none, some (some 31), some (some 32), some (some 33), some none]
  | _ => []
def fv (h : Hp) (o j : Nat) : Value := match (fD o)[j]? with
  | some (some (some r)) => .ref r
  | some (some none) => .int (h.1 o j)
  | some none => .long (h.2 o j)
  | none => .null
abbrev Cs : Type := ClassId × ClassId × ClassId
def cO (cs : Cs) (t : Nat) : ClassId := match t with
  | 0 => cs.1
  | 1 => cs.2.1
  | _ => cs.2.2
def cE (ad : Nat → Nat) (cs : Cs) (h : Hp) (o : Nat) : va_E := match oC o with
  | some ci => .inr (ci, (List.range (fD o).length).map (fun j => tr ad (fv h o j)))
  | none => .inl (cO cs (aT o).1, (aT o).2, .inl (h.1 o))
def wl (ad : Nat → Nat) (cs : Cs) (h : Hp) : va_W := (List.range 34).map (fun o => (ad o, cE ad cs h o))
theorem wl_get {ad : Nat → Nat} {cs : Cs} {h : Hp} {o : Nat} (ho : o < 34) : (wl ad cs h)[o]? = some (ad o, cE ad cs h o) := by
  unfold wl
  rw [List.getElem?_map, List.getElem?_range ho]
  rfl
theorem wl_inv {ad : Nat → Nat} {cs : Cs} {h : Hp} {o : Nat} {q : Nat × va_E} (e : (wl ad cs h)[o]? = some q) : o < 34 ∧ q = (ad o, cE ad cs h o) := by
  by_cases ho : o < 34
  · rw [wl_get ho] at e
    exact ⟨ho, (Option.some.inj e).symm⟩
  · have hl : (wl ad cs h).length = 34 := by simp [wl]
    rw [List.getElem?_eq_none (by omega)] at e
    cases e
def adOk (A : Nat → Prop) (ad : Nat → Nat) : Prop := (∀ i j : Nat, i < 34 → j < 34 → ad i = ad j → i = j) ∧ ∀ i : Nat, i < 34 → A (ad i)
theorem wl_D {A : Nat → Prop} {ad : Nat → Nat} {cs : Cs} (h : Hp) (hA : adOk A ad) : va_D A (wl ad cs h) := by
  refine ⟨fun i j p q hp hq e => ?_, fun k q hk => ?_⟩
  · obtain ⟨h1, rfl⟩ := wl_inv hp
    obtain ⟨h2, rfl⟩ := wl_inv hq
    exact hA.1 i j h1 h2 e
  · obtain ⟨h1, rfl⟩ := wl_inv hk
    exact hA.2 k h1
theorem wl_Di {A : Nat → Prop} {ad : Nat → Nat} {cs : Cs} {h : Hp} (hD : va_D A (wl ad cs h)) : adOk A ad :=
  ⟨fun i j h1 h2 e => hD.1 i j _ _ (wl_get h1) (wl_get h2) e, fun i h1 => hD.2 i _ (wl_get h1)⟩
theorem cE_obj {ad : Nat → Nat} {cs : Cs} {h : Hp} {o ci : Nat} (e : oC o = some ci) : cE ad cs h o = .inr (ci, (List.range (fD o).length).map (fun j => tr ad (fv h o j))) := by
  unfold cE
  rw [e]
theorem cE_arr {ad : Nat → Nat} {cs : Cs} {h : Hp} {o : Nat} (e : oC o = none) : cE ad cs h o = .inl (cO cs (aT o).1, (aT o).2, .inl (h.1 o)) := by
  unfold cE
  rw [e]
theorem cE_congr {ad : Nat → Nat} {cs : Cs} {h h2 : Hp} {o : Nat} (e1 : h.1 o = h2.1 o) (e2 : h.2 o = h2.2 o) : cE ad cs h o = cE ad cs h2 o := by
  have ef : ∀ j, fv h o j = fv h2 o j := fun j => by unfold fv; rw [e1, e2]
  unfold cE
  cases oC o with
  | none => simp only [e1]
  | some ci => simp only [ef]
/-- a world with one cell set is the world of another heap -/
theorem wl_set {ad : Nat → Nat} {cs : Cs} {h h2 : Hp} {o : Nat} {x : va_E} (hx : x = cE ad cs h2 o) (hn : ∀ i, i ≠ o → h2.1 i = h.1 i ∧ h2.2 i = h.2 i) : (wl ad cs h).set o (ad o, x) = wl ad cs h2 := by
  apply List.ext_getElem?
  intro i
  rw [List.getElem?_set]
  by_cases hi : i < 34
  · rw [wl_get hi, wl_get hi]
    by_cases he : o = i
    · subst he
      have hl : (wl ad cs h).length = 34 := by simp [wl]
      rw [if_pos rfl, if_pos (by omega), hx]
    · rw [if_neg he, cE_congr (hn i (fun q => he q.symm)).1.symm (hn i (fun q => he q.symm)).2.symm]
  · have hl : (wl ad cs h).length = 34 := by simp [wl]
    have hl2 : (wl ad cs h2).length = 34 := by simp [wl]
    rw [List.getElem?_eq_none (l := wl ad cs h2) (by omega), List.getElem?_eq_none (l := wl ad cs h) (by omega)]
    by_cases he : o = i
    · rw [if_pos he, if_neg (by omega)]
    · rw [if_neg he]
theorem sI_o {h : Hp} {o k : Nat} {v : Int32} : (sI h o k v).1 o = upd (h.1 o) k v := by
  funext j
  unfold sI upd
  by_cases hj : j = k
  · subst hj; simp
  · have e : (j == k) = false := by simpa using hj
    simp [hj, e]
theorem sI_n {h : Hp} {o k i : Nat} {v : Int32} (hi : i ≠ o) : (sI h o k v).1 i = h.1 i ∧ (sI h o k v).2 i = h.2 i := by
  refine ⟨?_, rfl⟩
  funext j
  have e : (i == o) = false := by simpa using hi
  unfold sI
  simp [e]
theorem sL_n {h : Hp} {o k i : Nat} {v : Int64} (hi : i ≠ o) : (sL h o k v).1 i = h.1 i ∧ (sL h o k v).2 i = h.2 i := by
  refine ⟨rfl, ?_⟩
  funext j
  have e : (i == o) = false := by simpa using hi
  unfold sL
  simp [e]
theorem sC_n {h : Hp} {a sp b dp n i : Nat} (hi : i ≠ b) : (sC h a sp b dp n).1 i = h.1 i ∧ (sC h a sp b dp n).2 i = h.2 i := by
  refine ⟨?_, rfl⟩
  funext j
  have e : (i == b) = false := by simpa using hi
  unfold sC
  simp [e]
theorem sC_o {h : Hp} {a sp b dp n : Nat} : (sC h a sp b dp n).1 b = va_cpy (h.1 a) (h.1 b) sp dp n := by
  funext j
  unfold sC va_cpy
  by_cases c1 : dp ≤ j ∧ j < dp + n
  · simp [c1]
  · simp [c1]
theorem set_put {ad : Nat → Nat} {cs : Cs} {h : Hp} {o ci j : Nat} {v : Int32} (e : oC o = some ci) (hd : (fD o)[j]? = some (some none)) : (wl ad cs h).set o (ad o, .inr (ci, ((List.range (fD o).length).map (fun j => tr ad (fv h o j))).set j (.int v))) = wl ad cs (sI h o j v) := by
  refine wl_set ?_ (fun i hi => sI_n hi)
  rw [cE_obj e]
  congr 2
  apply List.ext_getElem?
  intro q
  rw [List.getElem?_set, List.getElem?_map, List.getElem?_map]
  have hj : j < (fD o).length := (List.getElem?_eq_some_iff.mp hd).1
  by_cases hq : j = q
  · subst hq
    rw [if_pos rfl, if_pos (by simpa using hj), List.getElem?_range hj]
    simp only [Option.map_some, fv, hd, tr, sI_o, upd, if_pos]
  · rw [if_neg hq]
    have ef : fv (sI h o j v) o q = fv h o q := by
      have hx : (sI h o j v).1 o q = h.1 o q := by rw [sI_o]; unfold upd; rw [if_neg (fun z => hq z.symm)]
      have hy : (sI h o j v).2 = h.2 := rfl
      unfold fv
      rw [hx, hy]
    by_cases hl : q < (fD o).length
    · rw [List.getElem?_range hl]
      simp only [Option.map_some, ef]
    · rw [List.getElem?_eq_none (by simpa using hl)]
      rfl
theorem set_putL {ad : Nat → Nat} {cs : Cs} {h : Hp} {o ci j : Nat} {v : Int64} (e : oC o = some ci) (hd : (fD o)[j]? = some none) : (wl ad cs h).set o (ad o, .inr (ci, ((List.range (fD o).length).map (fun j => tr ad (fv h o j))).set j (.long v))) = wl ad cs (sL h o j v) := by
  refine wl_set ?_ (fun i hi => sL_n hi)
  rw [cE_obj e]
  congr 2
  apply List.ext_getElem?
  intro q
  rw [List.getElem?_set, List.getElem?_map, List.getElem?_map]
  have hj : j < (fD o).length := (List.getElem?_eq_some_iff.mp hd).1
  by_cases hq : j = q
  · subst hq
    rw [if_pos rfl, if_pos (by simpa using hj), List.getElem?_range hj]
    have hx : (sL h o j v).2 o j = v := by unfold sL; simp
    simp only [Option.map_some, fv, hd, tr, hx]
  · rw [if_neg hq]
    have ef : fv (sL h o j v) o q = fv h o q := by
      have hx : (sL h o j v).2 o q = h.2 o q := by
        have e : (q == j) = false := by simpa using (fun z => hq (Eq.symm z))
        unfold sL
        simp [e]
      have hy : (sL h o j v).1 = h.1 := rfl
      unfold fv
      rw [hx, hy]
    by_cases hl : q < (fD o).length
    · rw [List.getElem?_range hl]
      simp only [Option.map_some, ef]
    · rw [List.getElem?_eq_none (by simpa using hl)]
      rfl
theorem set_arr {ad : Nat → Nat} {cs : Cs} {h h2 : Hp} {o : Nat} {f : Nat → Int32} (e : oC o = none) (hf : f = h2.1 o) (hn : ∀ i, i ≠ o → h2.1 i = h.1 i ∧ h2.2 i = h.2 i) : (wl ad cs h).set o (ad o, .inl (cO cs (aT o).1, (aT o).2, .inl f)) = wl ad cs h2 := wl_set (by rw [cE_arr e, hf]) hn

/-! what a walk of one method holds fixed -/
abbrev KX : Type := (Program × Launch × Env) × (State × MethodId × Array Value × List Frame × Method × Code) × (Nat × Nat × (State → Prop)) × ((Nat → Nat) × Cs × va_G × (Nat → Prop))
abbrev kP (k : KX) : Program := k.1.1
abbrev kL (k : KX) : Launch := k.1.2.1
abbrev kE (k : KX) : Env := k.1.2.2
abbrev kS (k : KX) : State := k.2.1.1
abbrev kM (k : KX) : MethodId := k.2.1.2.1
abbrev kA (k : KX) : Array Value := k.2.1.2.2.1
abbrev kB (k : KX) : List Frame := k.2.1.2.2.2.1
abbrev kMe (k : KX) : Method := k.2.1.2.2.2.2.1
abbrev kC (k : KX) : Code := k.2.1.2.2.2.2.2
abbrev kCe (k : KX) : Nat := k.2.2.1.1
abbrev kSl (k : KX) : Nat := k.2.2.1.2.1
abbrev kQ (k : KX) : State → Prop := k.2.2.1.2.2
abbrev kAd (k : KX) : Nat → Nat := k.2.2.2.1
abbrev kCs (k : KX) : Cs := k.2.2.2.2.1
abbrev kD (k : KX) : va_G := k.2.2.2.2.2.1
abbrev kF (k : KX) : Nat → Prop := k.2.2.2.2.2.2
abbrev tys (cs : Cs) : List (ClassId × FieldType) := [(cs.1, .int), (cs.2.1, .byte), (cs.2.2, .boolean)]
abbrev trL (ad : Nat → Nat) (lv : List (Nat × Value)) : List (Nat × Value) := lv.map (fun q => (q.1, tr ad q.2))
def V (k : KX) (Rm : Room) (nL pc : Nat) (lv : List (Nat × Value)) (st : List Value) (h : Hp) : Prop :=
  ∀ (H : Heap) (locs : List Loc) (ls : Array Slot), lv_has ls nL (trL (kAd k) lv) → va_P (kD k) vwCl (wl (kAd k) (kCs k) h) H → va_S (kF k) (kS k).heap H locs → W (kP k) (kL k) (kE k) Rm (kS k) (kM k) (kA k) (kB k) (kMe k) (kC k) H locs (kCe k) (kSl k) (kQ k) (F0 (kM k) pc ls (st.map (tr (kAd k))))
def isNest : Cond → Bool
  | .fieldLinkNest _ _ _ _ _ _ => true
  | .methodLinkNest _ _ _ _ => true
  | _ => false
theorem nest_warm {s U : State} (hW : s.WarmedH U.vm) {w : Cond} (hn : isNest w = true) (h : va_Nw w s) : va_Nw w U := by
  unfold isNest at hn
  split at hn
  · exact va_Nw.warmF hW h
  · exact va_Nw.warmM hW h
  · cases hn
theorem nest_same {s U : State} (e : s.vm = U.vm) {w : Cond} (hn : isNest w = true) (h : va_Nw w s) : va_Nw w U := by
  unfold isNest at hn
  split at hn
  · exact va_Nw.same rfl e h
  · exact va_Nw.same rfl e h
  · cases hn
theorem nestW_is : ∀ w ∈ nestW, isNest w = true := by
  have h : nestW.all isNest = true := by decide +kernel
  exact List.all_eq_true.mp h

def Cx (k : KX) (cc : ByteArray) (own : String) (nL : Nat) (Rm : Room) : Prop :=
  (kP k).tables.exec = Jvm.exec ∧ (kC k).code = cc ∧ (kC k).maxLocals = nL ∧ (kS k).vm.findClass own = some (kM k).cls ∧ (∀ w ∈ wsG, w.before (kA k) (kS k) = true) ∧ va_K (kD k) vwCl (tys (kCs k)) (kS k) ∧ adOk (kF k) (kAd k) ∧ (∀ q, (kS k).heap.size ≤ q → kF k q) ∧ (kCe k ≤ Rm.cells ∧ kSl k ≤ Rm.slots) ∧ ∀ w ∈ nestW, va_Nw w (kS k)
def qR (ad : Nat → Nat) (cs : Cs) (D : va_G) (A : Nat → Prop) (rv : Option Value) (hf : Hp) : Array Value → State → Outcome → State → Prop := fun _ st oc t => oc = .returned (rv.map (tr ad)) ∧ va_P D vwCl (wl ad cs hf) t.heap ∧ va_F A st t
def Rx (k : KX) (ret : Option FieldType) (rv : Option Value) (hf : Hp) : Prop :=
  kQ k = MQ (kB k) (qR (kAd k) (kCs k) (kD k) (kF k) rv hf) (kA k) (kS k) 0 0 (kF k) ∧ (kMe k).sig.returnType = ret ∧ (kMe k).locks = false ∧ kCe k = 0 ∧ kSl k = 0
/-- a method's contract: from the heap h with these arguments it answers rv and leaves the heap hf -/
def wsOf (ad : Nat → Nat) (cs : Cs) (D : va_G) (sz : Nat) (h : Hp) (U : State) : Prop := U.heap.size = sz ∧ va_P D vwCl (wl ad cs h) U.heap ∧ va_K D vwCl (tys cs) U ∧ va_D (fun _ => True) (wl ad cs h) ∧ ∀ w ∈ nestW, va_Nw w U
def Ct (l : Launch) (y : MethodName) (ws : List Cond) (rm : Room) (xs : List Value) (h : Hp) (rv : Option Value) (hf : Hp) : Prop :=
  ∀ (ad : Nat → Nat) (cs : Cs) (D : va_G) (sz : Nat), Met l y ws rm (va_Pc (xs.map (tr ad)) (wsOf ad cs D sz h)) (qR ad cs D (va_A (wl ad cs h) sz) rv hf) 0 0 (va_A (wl ad cs h) sz)

theorem V.iconst {k : KX} {cc : ByteArray} {own : String} {nL : Nat} {Rm : Room} {pc : Nat} {lv : List (Nat × Value)} {st : List Value} {h : Hp} (C : Cx k cc own nL Rm) {n : Int} {v : Int32} (d : decode cc pc = .ok (.iconst n, 1)) (hv : Int32.ofInt n = v) (g : V k Rm nL (pc + 1) lv (.int v :: st) h) : V k Rm nL pc lv st h := by
  intro H locs ls hl hP hS
  exact lv_iconst C.1 C.2.1 d hv (g H locs ls hl hP hS)
theorem V.bipush {k : KX} {cc : ByteArray} {own : String} {nL : Nat} {Rm : Room} {pc : Nat} {lv : List (Nat × Value)} {st : List Value} {h : Hp} (C : Cx k cc own nL Rm) {n : Int} {v : Int32} (d : decode cc pc = .ok (.bipush n, 2)) (hv : (Int8.ofInt n).toInt32 = v) (g : V k Rm nL (pc + 2) lv (.int v :: st) h) : V k Rm nL pc lv st h := by
  intro H locs ls hl hP hS
  exact lv_bipush C.1 C.2.1 d hv (g H locs ls hl hP hS)
theorem V.sipush {k : KX} {cc : ByteArray} {own : String} {nL : Nat} {Rm : Room} {pc : Nat} {lv : List (Nat × Value)} {st : List Value} {h : Hp} (C : Cx k cc own nL Rm) {n : Int} {v : Int32} (d : decode cc pc = .ok (.sipush n, 3)) (hv : (Int16.ofInt n).toInt32 = v) (g : V k Rm nL (pc + 3) lv (.int v :: st) h) : V k Rm nL pc lv st h := by
  intro H locs ls hl hP hS
  exact lv_sipush C.1 C.2.1 d hv (g H locs ls hl hP hS)
theorem V.lconst {k : KX} {cc : ByteArray} {own : String} {nL : Nat} {Rm : Room} {pc : Nat} {lv : List (Nat × Value)} {st : List Value} {h : Hp} (C : Cx k cc own nL Rm) {n : Fin 2} {v : Int64} (d : decode cc pc = .ok (.lconst n, 1)) (hv : Int64.ofNat (n : Nat) = v) (g : V k Rm nL (pc + 1) lv (.long v :: st) h) : V k Rm nL pc lv st h := by
  intro H locs ls hl hP hS
  exact lv_lconst C.1 C.2.1 d hv (g H locs ls hl hP hS)
theorem V.ldc {k : KX} {cc : ByteArray} {own : String} {nL : Nat} {Rm : Room} {pc : Nat} {lv : List (Nat × Value)} {st : List Value} {h : Hp} (C : Cx k cc own nL Rm) {i : Nat} {v : Int32} (hc : Cond.constant own i v ∈ wsG) (d : decode cc pc = .ok (.ldc i, 2)) (g : V k Rm nL (pc + 2) lv (.int v :: st) h) : V k Rm nL pc lv st h := by
  intro H locs ls hl hP hS
  exact lv_ldc C.1 C.2.1 C.2.2.2.1 (C.2.2.2.2.1 _ hc) d (g H locs ls hl hP hS)
theorem V.ldcw {k : KX} {cc : ByteArray} {own : String} {nL : Nat} {Rm : Room} {pc : Nat} {lv : List (Nat × Value)} {st : List Value} {h : Hp} (C : Cx k cc own nL Rm) {i : Nat} {v : Int32} (hc : Cond.constant own i v ∈ wsG) (d : decode cc pc = .ok (.ldc_w i, 3)) (g : V k Rm nL (pc + 3) lv (.int v :: st) h) : V k Rm nL pc lv st h := by
  intro H locs ls hl hP hS
  exact lv_ldcw C.1 C.2.1 C.2.2.2.1 (C.2.2.2.2.1 _ hc) d (g H locs ls hl hP hS)
theorem V.ldc2 {k : KX} {cc : ByteArray} {own : String} {nL : Nat} {Rm : Room} {pc : Nat} {lv : List (Nat × Value)} {st : List Value} {h : Hp} (C : Cx k cc own nL Rm) {i : Nat} {v : Int64} (hc : Cond.constantLong own i v ∈ wsG) (d : decode cc pc = .ok (.ldc2_w i, 3)) (g : V k Rm nL (pc + 3) lv (.long v :: st) h) : V k Rm nL pc lv st h := by
  intro H locs ls hl hP hS
  exact lv_ldc2 C.1 C.2.1 C.2.2.2.1 (C.2.2.2.2.1 _ hc) d (g H locs ls hl hP hS)
theorem lvAt {ad : Nat → Nat} {ls : Array Slot} {nL : Nat} {lv : List (Nat × Value)} (hl : lv_has ls nL (trL ad lv)) (j : Nat) {i : Nat} {v : Value} (hk : lv[j]? = some (i, v)) : ls[i]? = some (.val (tr ad v)) := lv_at hl j (by rw [List.getElem?_map, hk]; rfl)
theorem V.iload_n {k : KX} {cc : ByteArray} {own : String} {nL : Nat} {Rm : Room} {pc : Nat} {lv : List (Nat × Value)} {st : List Value} {h : Hp} (C : Cx k cc own nL Rm) {i : Fin 4} {x : Int32} (d : decode cc pc = .ok (.iload_n i, 1)) (j : Nat) (hk : lv[j]? = some ((i : Nat), .int x)) (g : V k Rm nL (pc + 1) lv (.int x :: st) h) : V k Rm nL pc lv st h := by
  intro H locs ls hl hP hS
  exact lv_iload_n C.1 C.2.1 d rfl (lvAt hl j hk) (g H locs ls hl hP hS)
theorem V.iload {k : KX} {cc : ByteArray} {own : String} {nL : Nat} {Rm : Room} {pc : Nat} {lv : List (Nat × Value)} {st : List Value} {h : Hp} (C : Cx k cc own nL Rm) {i : Nat} {x : Int32} (d : decode cc pc = .ok (.iload i, 2)) (j : Nat) (hk : lv[j]? = some (i, .int x)) (g : V k Rm nL (pc + 2) lv (.int x :: st) h) : V k Rm nL pc lv st h := by
  intro H locs ls hl hP hS
  exact lv_iload C.1 C.2.1 d (lvAt hl j hk) (g H locs ls hl hP hS)
theorem V.lload_n {k : KX} {cc : ByteArray} {own : String} {nL : Nat} {Rm : Room} {pc : Nat} {lv : List (Nat × Value)} {st : List Value} {h : Hp} (C : Cx k cc own nL Rm) {i : Fin 4} {x : Int64} (d : decode cc pc = .ok (.lload_n i, 1)) (j : Nat) (hk : lv[j]? = some ((i : Nat), .long x)) (g : V k Rm nL (pc + 1) lv (.long x :: st) h) : V k Rm nL pc lv st h := by
  intro H locs ls hl hP hS
  exact lv_lload_n C.1 C.2.1 d rfl (lvAt hl j hk) (g H locs ls hl hP hS)
theorem V.lload {k : KX} {cc : ByteArray} {own : String} {nL : Nat} {Rm : Room} {pc : Nat} {lv : List (Nat × Value)} {st : List Value} {h : Hp} (C : Cx k cc own nL Rm) {i : Nat} {x : Int64} (d : decode cc pc = .ok (.lload i, 2)) (j : Nat) (hk : lv[j]? = some (i, .long x)) (g : V k Rm nL (pc + 2) lv (.long x :: st) h) : V k Rm nL pc lv st h := by
  intro H locs ls hl hP hS
  exact lv_lload C.1 C.2.1 d (lvAt hl j hk) (g H locs ls hl hP hS)
theorem V.aload_n {k : KX} {cc : ByteArray} {own : String} {nL : Nat} {Rm : Room} {pc : Nat} {lv : List (Nat × Value)} {st : List Value} {h : Hp} (C : Cx k cc own nL Rm) {i : Fin 4} {x : Nat} (d : decode cc pc = .ok (.aload_n i, 1)) (j : Nat) (hk : lv[j]? = some ((i : Nat), .ref x)) (g : V k Rm nL (pc + 1) lv (.ref x :: st) h) : V k Rm nL pc lv st h := by
  intro H locs ls hl hP hS
  exact lv_aload_n C.1 C.2.1 d rfl (lvAt hl j hk) (g H locs ls hl hP hS)
theorem trL_f1 {ad : Nat → Nat} {lv : List (Nat × Value)} {i : Nat} : (trL ad lv).filter (fun q => !(q.1 == i) && !(q.1 + 1 == i && q.2.category == 2)) = trL ad (lv.filter (fun q => !(q.1 == i) && !(q.1 + 1 == i && q.2.category == 2))) := by
  unfold trL
  rw [List.filter_map]
  congr 1
  apply List.filter_congr
  intro q _
  simp only [Function.comp, tr_cat]
theorem trL_f2 {ad : Nat → Nat} {lv : List (Nat × Value)} {i : Nat} : (trL ad lv).filter (fun q => !(q.1 == i) && (!(q.1 == i + 1) && !(q.1 + 1 == i && q.2.category == 2))) = trL ad (lv.filter (fun q => !(q.1 == i) && (!(q.1 == i + 1) && !(q.1 + 1 == i && q.2.category == 2)))) := by
  unfold trL
  rw [List.filter_map]
  congr 1
  apply List.filter_congr
  intro q _
  simp only [Function.comp, tr_cat]
theorem V.istore_n {k : KX} {cc : ByteArray} {own : String} {nL : Nat} {Rm : Room} {pc : Nat} {lv : List (Nat × Value)} {st : List Value} {h : Hp} (C : Cx k cc own nL Rm) {i0 : Fin 4} {i : Nat} {x : Int32} {lv2 : List (Nat × Value)} (d : decode cc pc = .ok (.istore_n i0, 1)) (hi : (i0 : Nat) = i) (hn : i < nL) (e : (i, Value.int x) :: lv.filter (fun q => !(q.1 == i) && !(q.1 + 1 == i && q.2.category == 2)) = lv2) (g : V k Rm nL (pc + 1) lv2 st h) : V k Rm nL pc lv (.int x :: st) h := by
  intro H locs ls hl hP hS
  exact lv_istore_n C.1 C.2.1 d hi hl hn (by rw [trL_f1]; exact congrArg (trL (kAd k)) e) (fun ls2 hl2 => g H locs ls2 hl2 hP hS)
theorem V.istore {k : KX} {cc : ByteArray} {own : String} {nL : Nat} {Rm : Room} {pc : Nat} {lv : List (Nat × Value)} {st : List Value} {h : Hp} (C : Cx k cc own nL Rm) {i : Nat} {x : Int32} {lv2 : List (Nat × Value)} (d : decode cc pc = .ok (.istore i, 2)) (hn : i < nL) (e : (i, Value.int x) :: lv.filter (fun q => !(q.1 == i) && !(q.1 + 1 == i && q.2.category == 2)) = lv2) (g : V k Rm nL (pc + 2) lv2 st h) : V k Rm nL pc lv (.int x :: st) h := by
  intro H locs ls hl hP hS
  exact lv_istore C.1 C.2.1 d hl hn (by rw [trL_f1]; exact congrArg (trL (kAd k)) e) (fun ls2 hl2 => g H locs ls2 hl2 hP hS)
theorem V.lstore_n {k : KX} {cc : ByteArray} {own : String} {nL : Nat} {Rm : Room} {pc : Nat} {lv : List (Nat × Value)} {st : List Value} {h : Hp} (C : Cx k cc own nL Rm) {i0 : Fin 4} {i : Nat} {x : Int64} {lv2 : List (Nat × Value)} (d : decode cc pc = .ok (.lstore_n i0, 1)) (hi : (i0 : Nat) = i) (hn : i + 1 < nL) (e : (i, Value.long x) :: lv.filter (fun q => !(q.1 == i) && (!(q.1 == i + 1) && !(q.1 + 1 == i && q.2.category == 2))) = lv2) (g : V k Rm nL (pc + 1) lv2 st h) : V k Rm nL pc lv (.long x :: st) h := by
  intro H locs ls hl hP hS
  exact lv_lstore_n C.1 C.2.1 d hi hl hn (by rw [trL_f2]; exact congrArg (trL (kAd k)) e) (fun ls2 hl2 => g H locs ls2 hl2 hP hS)
theorem V.lstore {k : KX} {cc : ByteArray} {own : String} {nL : Nat} {Rm : Room} {pc : Nat} {lv : List (Nat × Value)} {st : List Value} {h : Hp} (C : Cx k cc own nL Rm) {i : Nat} {x : Int64} {lv2 : List (Nat × Value)} (d : decode cc pc = .ok (.lstore i, 2)) (hn : i + 1 < nL) (e : (i, Value.long x) :: lv.filter (fun q => !(q.1 == i) && (!(q.1 == i + 1) && !(q.1 + 1 == i && q.2.category == 2))) = lv2) (g : V k Rm nL (pc + 2) lv2 st h) : V k Rm nL pc lv (.long x :: st) h := by
  intro H locs ls hl hP hS
  exact lv_lstore C.1 C.2.1 d hl hn (by rw [trL_f2]; exact congrArg (trL (kAd k)) e) (fun ls2 hl2 => g H locs ls2 hl2 hP hS)
theorem V.iinc {k : KX} {cc : ByteArray} {own : String} {nL : Nat} {Rm : Room} {pc : Nat} {lv : List (Nat × Value)} {st : List Value} {h : Hp} (C : Cx k cc own nL Rm) {i j : Nat} {n : Int} {x v : Int32} {lv2 : List (Nat × Value)} (d : decode cc pc = .ok (.iinc i n, 3)) (hk : lv[j]? = some (i, .int x)) (hv : x + Int32.ofInt n = v) (hn : i < nL) (e : (i, Value.int v) :: lv.filter (fun q => !(q.1 == i) && !(q.1 + 1 == i && q.2.category == 2)) = lv2) (g : V k Rm nL (pc + 3) lv2 st h) : V k Rm nL pc lv st h := by
  intro H locs ls hl hP hS
  exact lv_iinc C.1 C.2.1 d hl (k := j) (by rw [List.getElem?_map, hk]; rfl) hv hn (by rw [trL_f1]; exact congrArg (trL (kAd k)) e) (fun ls2 hl2 => g H locs ls2 hl2 hP hS)
theorem V.iadd {k : KX} {cc : ByteArray} {own : String} {nL : Nat} {Rm : Room} {pc : Nat} {lv : List (Nat × Value)} {st : List Value} {h : Hp} (C : Cx k cc own nL Rm) {x y : Int32} (d : decode cc pc = .ok (.iadd, 1)) (g : V k Rm nL (pc + 1) lv (.int (x + y) :: st) h) : V k Rm nL pc lv (.int y :: .int x :: st) h := by
  intro H locs ls hl hP hS
  exact lv_iadd C.1 C.2.1 d (g H locs ls hl hP hS)
theorem V.isub {k : KX} {cc : ByteArray} {own : String} {nL : Nat} {Rm : Room} {pc : Nat} {lv : List (Nat × Value)} {st : List Value} {h : Hp} (C : Cx k cc own nL Rm) {x y : Int32} (d : decode cc pc = .ok (.isub, 1)) (g : V k Rm nL (pc + 1) lv (.int (x - y) :: st) h) : V k Rm nL pc lv (.int y :: .int x :: st) h := by
  intro H locs ls hl hP hS
  exact lv_isub C.1 C.2.1 d (g H locs ls hl hP hS)
theorem V.imul {k : KX} {cc : ByteArray} {own : String} {nL : Nat} {Rm : Room} {pc : Nat} {lv : List (Nat × Value)} {st : List Value} {h : Hp} (C : Cx k cc own nL Rm) {x y : Int32} (d : decode cc pc = .ok (.imul, 1)) (g : V k Rm nL (pc + 1) lv (.int (x * y) :: st) h) : V k Rm nL pc lv (.int y :: .int x :: st) h := by
  intro H locs ls hl hP hS
  exact lv_imul C.1 C.2.1 d (g H locs ls hl hP hS)
theorem V.iand {k : KX} {cc : ByteArray} {own : String} {nL : Nat} {Rm : Room} {pc : Nat} {lv : List (Nat × Value)} {st : List Value} {h : Hp} (C : Cx k cc own nL Rm) {x y : Int32} (d : decode cc pc = .ok (.iand, 1)) (g : V k Rm nL (pc + 1) lv (.int (x &&& y) :: st) h) : V k Rm nL pc lv (.int y :: .int x :: st) h := by
  intro H locs ls hl hP hS
  exact lv_iand C.1 C.2.1 d (g H locs ls hl hP hS)
theorem V.ior {k : KX} {cc : ByteArray} {own : String} {nL : Nat} {Rm : Room} {pc : Nat} {lv : List (Nat × Value)} {st : List Value} {h : Hp} (C : Cx k cc own nL Rm) {x y : Int32} (d : decode cc pc = .ok (.ior, 1)) (g : V k Rm nL (pc + 1) lv (.int (x ||| y) :: st) h) : V k Rm nL pc lv (.int y :: .int x :: st) h := by
  intro H locs ls hl hP hS
  exact lv_ior C.1 C.2.1 d (g H locs ls hl hP hS)
theorem V.ishl {k : KX} {cc : ByteArray} {own : String} {nL : Nat} {Rm : Room} {pc : Nat} {lv : List (Nat × Value)} {st : List Value} {h : Hp} (C : Cx k cc own nL Rm) {x y : Int32} (d : decode cc pc = .ok (.ishl, 1)) (g : V k Rm nL (pc + 1) lv (.int (x <<< (y &&& 31)) :: st) h) : V k Rm nL pc lv (.int y :: .int x :: st) h := by
  intro H locs ls hl hP hS
  exact lv_ishl C.1 C.2.1 d (g H locs ls hl hP hS)
theorem V.ishr {k : KX} {cc : ByteArray} {own : String} {nL : Nat} {Rm : Room} {pc : Nat} {lv : List (Nat × Value)} {st : List Value} {h : Hp} (C : Cx k cc own nL Rm) {x y : Int32} (d : decode cc pc = .ok (.ishr, 1)) (g : V k Rm nL (pc + 1) lv (.int (x >>> (y &&& 31)) :: st) h) : V k Rm nL pc lv (.int y :: .int x :: st) h := by
  intro H locs ls hl hP hS
  exact lv_ishr C.1 C.2.1 d (g H locs ls hl hP hS)
theorem V.iushr {k : KX} {cc : ByteArray} {own : String} {nL : Nat} {Rm : Room} {pc : Nat} {lv : List (Nat × Value)} {st : List Value} {h : Hp} (C : Cx k cc own nL Rm) {x y : Int32} (d : decode cc pc = .ok (.iushr, 1)) (g : V k Rm nL (pc + 1) lv (.int ((x.toUInt32 >>> (y.toUInt32 &&& Int32.toUInt32 31)).toInt32) :: st) h) : V k Rm nL pc lv (.int y :: .int x :: st) h := by
  intro H locs ls hl hP hS
  exact lv_iushr C.1 C.2.1 d rfl (g H locs ls hl hP hS)
theorem V.idiv {k : KX} {cc : ByteArray} {own : String} {nL : Nat} {Rm : Room} {pc : Nat} {lv : List (Nat × Value)} {st : List Value} {h : Hp} (C : Cx k cc own nL Rm) {x y : Int32} (d : decode cc pc = .ok (.idiv, 1)) (hz : ¬ y = 0) (g : V k Rm nL (pc + 1) lv (.int (x / y) :: st) h) : V k Rm nL pc lv (.int y :: .int x :: st) h := by
  intro H locs ls hl hP hS
  exact lv_idiv C.1 C.2.1 d hz (g H locs ls hl hP hS)
theorem V.irem {k : KX} {cc : ByteArray} {own : String} {nL : Nat} {Rm : Room} {pc : Nat} {lv : List (Nat × Value)} {st : List Value} {h : Hp} (C : Cx k cc own nL Rm) {x y : Int32} (d : decode cc pc = .ok (.irem, 1)) (hz : ¬ y = 0) (g : V k Rm nL (pc + 1) lv (.int (x - x / y * y) :: st) h) : V k Rm nL pc lv (.int y :: .int x :: st) h := by
  intro H locs ls hl hP hS
  exact lv_irem C.1 C.2.1 d hz (g H locs ls hl hP hS)
theorem V.ladd {k : KX} {cc : ByteArray} {own : String} {nL : Nat} {Rm : Room} {pc : Nat} {lv : List (Nat × Value)} {st : List Value} {h : Hp} (C : Cx k cc own nL Rm) {x y : Int64} (d : decode cc pc = .ok (.ladd, 1)) (g : V k Rm nL (pc + 1) lv (.long (x + y) :: st) h) : V k Rm nL pc lv (.long y :: .long x :: st) h := by
  intro H locs ls hl hP hS
  exact lv_ladd C.1 C.2.1 d (g H locs ls hl hP hS)
theorem V.lmul {k : KX} {cc : ByteArray} {own : String} {nL : Nat} {Rm : Room} {pc : Nat} {lv : List (Nat × Value)} {st : List Value} {h : Hp} (C : Cx k cc own nL Rm) {x y : Int64} (d : decode cc pc = .ok (.lmul, 1)) (g : V k Rm nL (pc + 1) lv (.long (x * y) :: st) h) : V k Rm nL pc lv (.long y :: .long x :: st) h := by
  intro H locs ls hl hP hS
  exact lv_lmul C.1 C.2.1 d (g H locs ls hl hP hS)
theorem V.ldiv {k : KX} {cc : ByteArray} {own : String} {nL : Nat} {Rm : Room} {pc : Nat} {lv : List (Nat × Value)} {st : List Value} {h : Hp} (C : Cx k cc own nL Rm) {x y : Int64} (d : decode cc pc = .ok (.ldiv, 1)) (hz : ¬ y = 0) (g : V k Rm nL (pc + 1) lv (.long (x / y) :: st) h) : V k Rm nL pc lv (.long y :: .long x :: st) h := by
  intro H locs ls hl hP hS
  exact lv_ldiv C.1 C.2.1 d hz (g H locs ls hl hP hS)
theorem V.lrem {k : KX} {cc : ByteArray} {own : String} {nL : Nat} {Rm : Room} {pc : Nat} {lv : List (Nat × Value)} {st : List Value} {h : Hp} (C : Cx k cc own nL Rm) {x y : Int64} (d : decode cc pc = .ok (.lrem, 1)) (hz : ¬ y = 0) (g : V k Rm nL (pc + 1) lv (.long (x - x / y * y) :: st) h) : V k Rm nL pc lv (.long y :: .long x :: st) h := by
  intro H locs ls hl hP hS
  exact lv_lrem C.1 C.2.1 d hz (g H locs ls hl hP hS)
theorem V.lcmp {k : KX} {cc : ByteArray} {own : String} {nL : Nat} {Rm : Room} {pc : Nat} {lv : List (Nat × Value)} {st : List Value} {h : Hp} (C : Cx k cc own nL Rm) {x y : Int64} (d : decode cc pc = .ok (.lcmp, 1)) (g : V k Rm nL (pc + 1) lv (.int (lg_cmp x y) :: st) h) : V k Rm nL pc lv (.long y :: .long x :: st) h := by
  intro H locs ls hl hP hS
  exact W.lcmp C.1 C.2.1 d (g H locs ls hl hP hS)
theorem V.i2l {k : KX} {cc : ByteArray} {own : String} {nL : Nat} {Rm : Room} {pc : Nat} {lv : List (Nat × Value)} {st : List Value} {h : Hp} (C : Cx k cc own nL Rm) {x : Int32} (d : decode cc pc = .ok (.i2l, 1)) (g : V k Rm nL (pc + 1) lv (.long x.toInt64 :: st) h) : V k Rm nL pc lv (.int x :: st) h := by
  intro H locs ls hl hP hS
  exact lv_i2l C.1 C.2.1 d rfl (g H locs ls hl hP hS)
theorem V.i2b {k : KX} {cc : ByteArray} {own : String} {nL : Nat} {Rm : Room} {pc : Nat} {lv : List (Nat × Value)} {st : List Value} {h : Hp} (C : Cx k cc own nL Rm) {x : Int32} (d : decode cc pc = .ok (.i2b, 1)) (g : V k Rm nL (pc + 1) lv (.int x.toInt8.toInt32 :: st) h) : V k Rm nL pc lv (.int x :: st) h := by
  intro H locs ls hl hP hS
  exact lv_i2b C.1 C.2.1 d rfl (g H locs ls hl hP hS)
theorem V.dup {k : KX} {cc : ByteArray} {own : String} {nL : Nat} {Rm : Room} {pc : Nat} {lv : List (Nat × Value)} {st : List Value} {h : Hp} (C : Cx k cc own nL Rm) {v : Value} (d : decode cc pc = .ok (.dup, 1)) (hv : v.category = 1) (g : V k Rm nL (pc + 1) lv (v :: v :: st) h) : V k Rm nL pc lv (v :: st) h := by
  intro H locs ls hl hP hS
  exact lv_dup C.1 C.2.1 d ((tr_cat _ _).trans hv) (g H locs ls hl hP hS)
theorem V.pop {k : KX} {cc : ByteArray} {own : String} {nL : Nat} {Rm : Room} {pc : Nat} {lv : List (Nat × Value)} {st : List Value} {h : Hp} (C : Cx k cc own nL Rm) {v : Value} (d : decode cc pc = .ok (.pop, 1)) (hv : v.category = 1) (g : V k Rm nL (pc + 1) lv st h) : V k Rm nL pc lv (v :: st) h := by
  intro H locs ls hl hP hS
  exact lv_pop C.1 C.2.1 d ((tr_cat _ _).trans hv) (g H locs ls hl hP hS)
theorem V.dup2 {k : KX} {cc : ByteArray} {own : String} {nL : Nat} {Rm : Room} {pc : Nat} {lv : List (Nat × Value)} {st : List Value} {h : Hp} (C : Cx k cc own nL Rm) {v w : Value} (d : decode cc pc = .ok (.dup2, 1)) (hv : v.category = 1) (hw : w.category = 1) (g : V k Rm nL (pc + 1) lv (v :: w :: v :: w :: st) h) : V k Rm nL pc lv (v :: w :: st) h := by
  intro H locs ls hl hP hS
  exact lv_dup2_11 C.1 C.2.1 d ((tr_cat _ _).trans hv) ((tr_cat _ _).trans hw) (g H locs ls hl hP hS)
theorem V.dup2L {k : KX} {cc : ByteArray} {own : String} {nL : Nat} {Rm : Room} {pc : Nat} {lv : List (Nat × Value)} {st : List Value} {h : Hp} (C : Cx k cc own nL Rm) {v : Value} (d : decode cc pc = .ok (.dup2, 1)) (hv : v.category = 2) (g : V k Rm nL (pc + 1) lv (v :: v :: st) h) : V k Rm nL pc lv (v :: st) h := by
  intro H locs ls hl hP hS
  exact lv_dup2_2 C.1 C.2.1 d ((tr_cat _ _).trans hv) (g H locs ls hl hP hS)
theorem V.if_eq {k : KX} {cc : ByteArray} {own : String} {nL : Nat} {Rm : Room} {pc : Nat} {lv : List (Nat × Value)} {st : List Value} {h : Hp} (C : Cx k cc own nL Rm) {x : Int32} {off : Int} {tgt : Nat} (d : decode cc pc = .ok (.ifCond .eq off, 3)) (ht : (pc : Int) + off = (tgt : Int)) (gt : x = 0 → V k Rm nL tgt lv st h) (gf : ¬ x = 0 → V k Rm nL (pc + 3) lv st h) : V k Rm nL pc lv (.int x :: st) h := by
  intro H locs ls hl hP hS
  exact lv_if_eq C.1 C.2.1 d ht (fun q => gt q H locs ls hl hP hS) (fun q => gf q H locs ls hl hP hS)
theorem V.icmp_eq {k : KX} {cc : ByteArray} {own : String} {nL : Nat} {Rm : Room} {pc : Nat} {lv : List (Nat × Value)} {st : List Value} {h : Hp} (C : Cx k cc own nL Rm) {x y : Int32} {off : Int} {tgt : Nat} (d : decode cc pc = .ok (.if_icmp .eq off, 3)) (ht : (pc : Int) + off = (tgt : Int)) (gt : x = y → V k Rm nL tgt lv st h) (gf : ¬ x = y → V k Rm nL (pc + 3) lv st h) : V k Rm nL pc lv (.int y :: .int x :: st) h := by
  intro H locs ls hl hP hS
  exact lv_icmp_eq C.1 C.2.1 d ht (fun q => gt q H locs ls hl hP hS) (fun q => gf q H locs ls hl hP hS)
theorem V.if_ne {k : KX} {cc : ByteArray} {own : String} {nL : Nat} {Rm : Room} {pc : Nat} {lv : List (Nat × Value)} {st : List Value} {h : Hp} (C : Cx k cc own nL Rm) {x : Int32} {off : Int} {tgt : Nat} (d : decode cc pc = .ok (.ifCond .ne off, 3)) (ht : (pc : Int) + off = (tgt : Int)) (gt : ¬ x = 0 → V k Rm nL tgt lv st h) (gf : x = 0 → V k Rm nL (pc + 3) lv st h) : V k Rm nL pc lv (.int x :: st) h := by
  intro H locs ls hl hP hS
  exact lv_if_ne C.1 C.2.1 d ht (fun q => gt q H locs ls hl hP hS) (fun q => gf q H locs ls hl hP hS)
theorem V.icmp_ne {k : KX} {cc : ByteArray} {own : String} {nL : Nat} {Rm : Room} {pc : Nat} {lv : List (Nat × Value)} {st : List Value} {h : Hp} (C : Cx k cc own nL Rm) {x y : Int32} {off : Int} {tgt : Nat} (d : decode cc pc = .ok (.if_icmp .ne off, 3)) (ht : (pc : Int) + off = (tgt : Int)) (gt : ¬ x = y → V k Rm nL tgt lv st h) (gf : x = y → V k Rm nL (pc + 3) lv st h) : V k Rm nL pc lv (.int y :: .int x :: st) h := by
  intro H locs ls hl hP hS
  exact lv_icmp_ne C.1 C.2.1 d ht (fun q => gt q H locs ls hl hP hS) (fun q => gf q H locs ls hl hP hS)
theorem V.if_lt {k : KX} {cc : ByteArray} {own : String} {nL : Nat} {Rm : Room} {pc : Nat} {lv : List (Nat × Value)} {st : List Value} {h : Hp} (C : Cx k cc own nL Rm) {x : Int32} {off : Int} {tgt : Nat} (d : decode cc pc = .ok (.ifCond .lt off, 3)) (ht : (pc : Int) + off = (tgt : Int)) (gt : x < 0 → V k Rm nL tgt lv st h) (gf : ¬ x < 0 → V k Rm nL (pc + 3) lv st h) : V k Rm nL pc lv (.int x :: st) h := by
  intro H locs ls hl hP hS
  exact lv_if_lt C.1 C.2.1 d ht (fun q => gt q H locs ls hl hP hS) (fun q => gf q H locs ls hl hP hS)
theorem V.icmp_lt {k : KX} {cc : ByteArray} {own : String} {nL : Nat} {Rm : Room} {pc : Nat} {lv : List (Nat × Value)} {st : List Value} {h : Hp} (C : Cx k cc own nL Rm) {x y : Int32} {off : Int} {tgt : Nat} (d : decode cc pc = .ok (.if_icmp .lt off, 3)) (ht : (pc : Int) + off = (tgt : Int)) (gt : x < y → V k Rm nL tgt lv st h) (gf : ¬ x < y → V k Rm nL (pc + 3) lv st h) : V k Rm nL pc lv (.int y :: .int x :: st) h := by
  intro H locs ls hl hP hS
  exact lv_icmp_lt C.1 C.2.1 d ht (fun q => gt q H locs ls hl hP hS) (fun q => gf q H locs ls hl hP hS)
theorem V.if_ge {k : KX} {cc : ByteArray} {own : String} {nL : Nat} {Rm : Room} {pc : Nat} {lv : List (Nat × Value)} {st : List Value} {h : Hp} (C : Cx k cc own nL Rm) {x : Int32} {off : Int} {tgt : Nat} (d : decode cc pc = .ok (.ifCond .ge off, 3)) (ht : (pc : Int) + off = (tgt : Int)) (gt : 0 ≤ x → V k Rm nL tgt lv st h) (gf : ¬ 0 ≤ x → V k Rm nL (pc + 3) lv st h) : V k Rm nL pc lv (.int x :: st) h := by
  intro H locs ls hl hP hS
  exact lv_if_ge C.1 C.2.1 d ht (fun q => gt q H locs ls hl hP hS) (fun q => gf q H locs ls hl hP hS)
theorem V.icmp_ge {k : KX} {cc : ByteArray} {own : String} {nL : Nat} {Rm : Room} {pc : Nat} {lv : List (Nat × Value)} {st : List Value} {h : Hp} (C : Cx k cc own nL Rm) {x y : Int32} {off : Int} {tgt : Nat} (d : decode cc pc = .ok (.if_icmp .ge off, 3)) (ht : (pc : Int) + off = (tgt : Int)) (gt : y ≤ x → V k Rm nL tgt lv st h) (gf : ¬ y ≤ x → V k Rm nL (pc + 3) lv st h) : V k Rm nL pc lv (.int y :: .int x :: st) h := by
  intro H locs ls hl hP hS
  exact lv_icmp_ge C.1 C.2.1 d ht (fun q => gt q H locs ls hl hP hS) (fun q => gf q H locs ls hl hP hS)
theorem V.if_gt {k : KX} {cc : ByteArray} {own : String} {nL : Nat} {Rm : Room} {pc : Nat} {lv : List (Nat × Value)} {st : List Value} {h : Hp} (C : Cx k cc own nL Rm) {x : Int32} {off : Int} {tgt : Nat} (d : decode cc pc = .ok (.ifCond .gt off, 3)) (ht : (pc : Int) + off = (tgt : Int)) (gt : 0 < x → V k Rm nL tgt lv st h) (gf : ¬ 0 < x → V k Rm nL (pc + 3) lv st h) : V k Rm nL pc lv (.int x :: st) h := by
  intro H locs ls hl hP hS
  exact lv_if_gt C.1 C.2.1 d ht (fun q => gt q H locs ls hl hP hS) (fun q => gf q H locs ls hl hP hS)
theorem V.icmp_gt {k : KX} {cc : ByteArray} {own : String} {nL : Nat} {Rm : Room} {pc : Nat} {lv : List (Nat × Value)} {st : List Value} {h : Hp} (C : Cx k cc own nL Rm) {x y : Int32} {off : Int} {tgt : Nat} (d : decode cc pc = .ok (.if_icmp .gt off, 3)) (ht : (pc : Int) + off = (tgt : Int)) (gt : y < x → V k Rm nL tgt lv st h) (gf : ¬ y < x → V k Rm nL (pc + 3) lv st h) : V k Rm nL pc lv (.int y :: .int x :: st) h := by
  intro H locs ls hl hP hS
  exact lv_icmp_gt C.1 C.2.1 d ht (fun q => gt q H locs ls hl hP hS) (fun q => gf q H locs ls hl hP hS)
theorem V.if_le {k : KX} {cc : ByteArray} {own : String} {nL : Nat} {Rm : Room} {pc : Nat} {lv : List (Nat × Value)} {st : List Value} {h : Hp} (C : Cx k cc own nL Rm) {x : Int32} {off : Int} {tgt : Nat} (d : decode cc pc = .ok (.ifCond .le off, 3)) (ht : (pc : Int) + off = (tgt : Int)) (gt : x ≤ 0 → V k Rm nL tgt lv st h) (gf : ¬ x ≤ 0 → V k Rm nL (pc + 3) lv st h) : V k Rm nL pc lv (.int x :: st) h := by
  intro H locs ls hl hP hS
  exact lv_if_le C.1 C.2.1 d ht (fun q => gt q H locs ls hl hP hS) (fun q => gf q H locs ls hl hP hS)
theorem V.icmp_le {k : KX} {cc : ByteArray} {own : String} {nL : Nat} {Rm : Room} {pc : Nat} {lv : List (Nat × Value)} {st : List Value} {h : Hp} (C : Cx k cc own nL Rm) {x y : Int32} {off : Int} {tgt : Nat} (d : decode cc pc = .ok (.if_icmp .le off, 3)) (ht : (pc : Int) + off = (tgt : Int)) (gt : x ≤ y → V k Rm nL tgt lv st h) (gf : ¬ x ≤ y → V k Rm nL (pc + 3) lv st h) : V k Rm nL pc lv (.int y :: .int x :: st) h := by
  intro H locs ls hl hP hS
  exact lv_icmp_le C.1 C.2.1 d ht (fun q => gt q H locs ls hl hP hS) (fun q => gf q H locs ls hl hP hS)
theorem look3 {a b c d : Int} {oa ob oc : Int} {x : Int} (h1 : x ≠ a) (h2 : x ≠ b) (h3 : x ≠ c) : Op.lookupswitch.offset [(a, oa), (b, ob), (c, oc)] d x = d := by
  simp [Op.lookupswitch.offset, h1.symm, h2.symm, h3.symm, h1, h2, h3]
theorem V.goto {k : KX} {cc : ByteArray} {own : String} {nL : Nat} {Rm : Room} {pc : Nat} {lv : List (Nat × Value)} {st : List Value} {h : Hp} (C : Cx k cc own nL Rm) {off : Int} {tgt : Nat} (d : decode cc pc = .ok (.goto off, 3)) (ht : (pc : Int) + off = (tgt : Int)) (g : V k Rm nL tgt lv st h) : V k Rm nL pc lv st h := by
  intro H locs ls hl hP hS
  exact lv_goto C.1 C.2.1 d ht (g H locs ls hl hP hS)
theorem V.sub {k : KX} {nL : Nat} {Rm : Room} {pc : Nat} {lv lv2 : List (Nat × Value)} {st : List Value} {h : Hp} (ks : List Nat) (e : lv_pick lv ks = lv2) (g : V k Rm nL pc lv2 st h) : V k Rm nL pc lv st h := by
  intro H locs ls hl hP hS
  refine g H locs ls (lv_sub hl ks ?_) hP hS
  rw [← e]
  unfold lv_pick trL
  rw [List.map_filterMap]
  congr 1
  funext i
  rw [List.getElem?_map]
theorem V.tin {k : KX} {cc : ByteArray} {own : String} {nL : Nat} {Rm : Room} {pc : Nat} {lv : List (Nat × Value)} {st : List Value} {h : Hp} (C : Cx k cc own nL Rm) {dflt lo hi : Int} {offs : Array Int} {len : Nat} {x v : Int32} {off : Int} {tgt : Nat} (d : decode cc pc = .ok (.tableswitch dflt lo hi offs, len)) (e : x = v) (h1 : ¬ v.toInt < lo) (h2 : ¬ hi < v.toInt) (ho : offs[(v.toInt - lo).toNat]? = some off) (ht : (pc : Int) + off = (tgt : Int)) (g : V k Rm nL tgt lv st h) : V k Rm nL pc lv (.int x :: st) h := by
  intro H locs ls hl hP hS
  subst e
  exact lv_tableIn C.1 C.2.1 d h1 h2 ho ht (g H locs ls hl hP hS)
theorem V.tout {k : KX} {cc : ByteArray} {own : String} {nL : Nat} {Rm : Room} {pc : Nat} {lv : List (Nat × Value)} {st : List Value} {h : Hp} (C : Cx k cc own nL Rm) {dflt lo hi : Int} {offs : Array Int} {len : Nat} {x : Int32} {tgt : Nat} (d : decode cc pc = .ok (.tableswitch dflt lo hi offs, len)) (e : x.toInt < lo ∨ hi < x.toInt) (ht : (pc : Int) + dflt = (tgt : Int)) (g : V k Rm nL tgt lv st h) : V k Rm nL pc lv (.int x :: st) h := by
  intro H locs ls hl hP hS
  exact lv_tableOut C.1 C.2.1 d e ht (g H locs ls hl hP hS)
theorem V.look {k : KX} {cc : ByteArray} {own : String} {nL : Nat} {Rm : Room} {pc : Nat} {lv : List (Nat × Value)} {st : List Value} {h : Hp} (C : Cx k cc own nL Rm) {dflt : Int} {ps : Array (Int × Int)} {len : Nat} {x : Int32} {off : Int} {tgt : Nat} (d : decode cc pc = .ok (.lookupswitch dflt ps, len)) (hp : (ps.toList.zip (ps.toList.drop 1)).all (fun (a, next) => a.1 < next.1) = true) (ho : Op.lookupswitch.offset ps.toList dflt x.toInt = off) (ht : (pc : Int) + off = (tgt : Int)) (g : V k Rm nL tgt lv st h) : V k Rm nL pc lv (.int x :: st) h := by
  intro H locs ls hl hP hS
  exact lv_lookup C.1 C.2.1 d hp ho ht (g H locs ls hl hP hS)
theorem fv_at {ad : Nat → Nat} {h : Hp} {o j : Nat} (hj : j < (fD o).length) : ((List.range (fD o).length).map (fun j => tr ad (fv h o j)))[j]? = some (tr ad (fv h o j)) := by
  rw [List.getElem?_map, List.getElem?_range hj]; rfl
theorem V.getf {k : KX} {cc : ByteArray} {own : String} {nL : Nat} {Rm : Room} {pc : Nat} {lv : List (Nat × Value)} {st : List Value} {h : Hp} (C : Cx k cc own nL Rm) {o ci j i N : Nat} {Cn : String} {T : u_T} {v : Value} (ho : o < 34) (hoc : oC o = some ci) (hc : vwCl[ci]? = some (Cn, T, N)) (hin : ∀ w ∈ u_ws Cn T N, w ∈ wsG) (hjN : j < N) (hj : j < (fD o).length) (hl0 : Cond.fieldLink own i (T j).1 (T j).2.1 (T j).2.2.1 ∈ wsG) (hv : fv h o j = v) (d : decode cc pc = .ok (.getfield i, 3)) (g : V k Rm nL (pc + 3) lv (v :: st) h) : V k Rm nL pc lv (.ref o :: st) h := by
  intro H locs ls hl hP hS
  exact va_get (D := kD k) C.1 C.2.1 C.2.2.2.2.1 hin C.2.2.2.1 C.2.2.2.2.2.1 hP o ((wl_get ho).trans (by rw [cE_obj hoc])) hc j hjN (C.2.2.2.2.1 _ hl0) (fun _ h9 => h9) (by rw [fv_at hj, hv]) d (g H locs ls hl hP hS)
theorem V.getN {k : KX} {cc : ByteArray} {own : String} {nL : Nat} {Rm : Room} {pc : Nat} {lv : List (Nat × Value)} {st : List Value} {h : Hp} (C : Cx k cc own nL Rm) {o ci j i N : Nat} {Cn : String} {T : u_T} {v : Value} (ho : o < 34) (hoc : oC o = some ci) (hc : vwCl[ci]? = some (Cn, T, N)) (hin : ∀ w ∈ u_ws Cn T N, w ∈ wsG) (hjN : j < N) (hj : j < (fD o).length) {host : String} (hl0 : Cond.fieldLinkNest own i (T j).1 (T j).2.1 (T j).2.2.1 host ∈ nestW) (hv : fv h o j = v) (d : decode cc pc = .ok (.getfield i, 3)) (g : V k Rm nL (pc + 3) lv (v :: st) h) : V k Rm nL pc lv (.ref o :: st) h := by
  intro H locs ls hl hP hS
  exact va_getN (D := kD k) C.1 C.2.1 C.2.2.2.2.1 hin C.2.2.2.1 C.2.2.2.2.2.1 hP o ((wl_get ho).trans (by rw [cE_obj hoc])) hc j hjN (va_Nw.use rfl (C.2.2.2.2.2.2.2.2.2 _ hl0)) (fun _ h9 => h9) (by rw [fv_at hj, hv]) d (g H locs ls hl hP hS)
theorem V.put {k : KX} {cc : ByteArray} {own : String} {nL : Nat} {Rm : Room} {pc : Nat} {lv : List (Nat × Value)} {st : List Value} {h : Hp} (C : Cx k cc own nL Rm) {o ci j i N : Nat} {Cn : String} {T : u_T} {v : Int32} (ho : o < 34) (hoc : oC o = some ci) (hc : vwCl[ci]? = some (Cn, T, N)) (hin : ∀ w ∈ u_ws Cn T N, w ∈ wsG) (hjN : j < N) (hj : j < (fD o).length) (hl0 : Cond.fieldLink own i (T j).1 (T j).2.1 (T j).2.2.1 ∈ wsG) (ty0 : Nat → FieldType) (hty : ∀ k, k < N → parseFieldDescriptor (T k).2.2.1 = some (ty0 k)) (hnm : ∀ a, a < N → ∀ b, b < N → a ≠ b → (T a).2.1 ≠ (T b).2.1) (hfin : (T j).2.2.2 = false) (hn : narrow (ty0 j) (.int v) = .int v) (hfit : fits (ty0 j) (.int v) = true) (hd : (fD o)[j]? = some (some none)) (d : decode cc pc = .ok (.putfield i, 3)) (g : V k Rm nL (pc + 3) lv st (sI h o j v)) : V k Rm nL pc lv (.int v :: .ref o :: st) h := by
  intro H locs ls hl hP hS
  exact va_put (D := kD k) C.1 C.2.1 C.2.2.2.2.1 hin ty0 hty hnm C.2.2.2.1 C.2.2.2.2.2.1 hP (wl_D h C.2.2.2.2.2.2.1) hS o ((wl_get ho).trans (by rw [cE_obj hoc])) hc j hjN (C.2.2.2.2.1 _ hl0) (fun _ h9 => h9) hfin (hty j hjN) hn hfit (by simpa using hj) d (fun H1 locs1 hP1 _ hS1 => g H1 locs1 ls hl (by rw [← set_put hoc hd]; exact hP1) hS1)
theorem V.putL {k : KX} {cc : ByteArray} {own : String} {nL : Nat} {Rm : Room} {pc : Nat} {lv : List (Nat × Value)} {st : List Value} {h : Hp} (C : Cx k cc own nL Rm) {o ci j i N : Nat} {Cn : String} {T : u_T} {v : Int64} (ho : o < 34) (hoc : oC o = some ci) (hc : vwCl[ci]? = some (Cn, T, N)) (hin : ∀ w ∈ u_ws Cn T N, w ∈ wsG) (hjN : j < N) (hj : j < (fD o).length) (hl0 : Cond.fieldLink own i (T j).1 (T j).2.1 (T j).2.2.1 ∈ wsG) (ty0 : Nat → FieldType) (hty : ∀ k, k < N → parseFieldDescriptor (T k).2.2.1 = some (ty0 k)) (hnm : ∀ a, a < N → ∀ b, b < N → a ≠ b → (T a).2.1 ≠ (T b).2.1) (hfin : (T j).2.2.2 = false) (hn : narrow (ty0 j) (.long v) = .long v) (hfit : fits (ty0 j) (.long v) = true) (hd : (fD o)[j]? = some none) (d : decode cc pc = .ok (.putfield i, 3)) (g : V k Rm nL (pc + 3) lv st (sL h o j v)) : V k Rm nL pc lv (.long v :: .ref o :: st) h := by
  intro H locs ls hl hP hS
  exact va_put (D := kD k) C.1 C.2.1 C.2.2.2.2.1 hin ty0 hty hnm C.2.2.2.1 C.2.2.2.2.2.1 hP (wl_D h C.2.2.2.2.2.2.1) hS o ((wl_get ho).trans (by rw [cE_obj hoc])) hc j hjN (C.2.2.2.2.1 _ hl0) (fun _ h9 => h9) hfin (hty j hjN) hn hfit (by simpa using hj) d (fun H1 locs1 hP1 _ hS1 => g H1 locs1 ls hl (by rw [← set_putL hoc hd]; exact hP1) hS1)
theorem V.putN {k : KX} {cc : ByteArray} {own : String} {nL : Nat} {Rm : Room} {pc : Nat} {lv : List (Nat × Value)} {st : List Value} {h : Hp} (C : Cx k cc own nL Rm) {o ci j i N : Nat} {Cn : String} {T : u_T} {v : Int32} (ho : o < 34) (hoc : oC o = some ci) (hc : vwCl[ci]? = some (Cn, T, N)) (hin : ∀ w ∈ u_ws Cn T N, w ∈ wsG) (hjN : j < N) (hj : j < (fD o).length) {host : String} (hl0 : Cond.fieldLinkNest own i (T j).1 (T j).2.1 (T j).2.2.1 host ∈ nestW) (ty0 : Nat → FieldType) (hty : ∀ k, k < N → parseFieldDescriptor (T k).2.2.1 = some (ty0 k)) (hnm : ∀ a, a < N → ∀ b, b < N → a ≠ b → (T a).2.1 ≠ (T b).2.1) (hfin : (T j).2.2.2 = false) (hn : narrow (ty0 j) (.int v) = .int v) (hfit : fits (ty0 j) (.int v) = true) (hd : (fD o)[j]? = some (some none)) (d : decode cc pc = .ok (.putfield i, 3)) (g : V k Rm nL (pc + 3) lv st (sI h o j v)) : V k Rm nL pc lv (.int v :: .ref o :: st) h := by
  intro H locs ls hl hP hS
  exact va_putN (D := kD k) C.1 C.2.1 C.2.2.2.2.1 hin ty0 hty hnm C.2.2.2.1 C.2.2.2.2.2.1 hP (wl_D h C.2.2.2.2.2.2.1) hS o ((wl_get ho).trans (by rw [cE_obj hoc])) hc j hjN (va_Nw.use rfl (C.2.2.2.2.2.2.2.2.2 _ hl0)) (fun _ h9 => h9) hfin (hty j hjN) hn hfit (by simpa using hj) d (fun H1 locs1 hP1 _ hS1 => g H1 locs1 ls hl (by rw [← set_put hoc hd]; exact hP1) hS1)
theorem V.putNL {k : KX} {cc : ByteArray} {own : String} {nL : Nat} {Rm : Room} {pc : Nat} {lv : List (Nat × Value)} {st : List Value} {h : Hp} (C : Cx k cc own nL Rm) {o ci j i N : Nat} {Cn : String} {T : u_T} {v : Int64} (ho : o < 34) (hoc : oC o = some ci) (hc : vwCl[ci]? = some (Cn, T, N)) (hin : ∀ w ∈ u_ws Cn T N, w ∈ wsG) (hjN : j < N) (hj : j < (fD o).length) {host : String} (hl0 : Cond.fieldLinkNest own i (T j).1 (T j).2.1 (T j).2.2.1 host ∈ nestW) (ty0 : Nat → FieldType) (hty : ∀ k, k < N → parseFieldDescriptor (T k).2.2.1 = some (ty0 k)) (hnm : ∀ a, a < N → ∀ b, b < N → a ≠ b → (T a).2.1 ≠ (T b).2.1) (hfin : (T j).2.2.2 = false) (hn : narrow (ty0 j) (.long v) = .long v) (hfit : fits (ty0 j) (.long v) = true) (hd : (fD o)[j]? = some none) (d : decode cc pc = .ok (.putfield i, 3)) (g : V k Rm nL (pc + 3) lv st (sL h o j v)) : V k Rm nL pc lv (.long v :: .ref o :: st) h := by
  intro H locs ls hl hP hS
  exact va_putN (D := kD k) C.1 C.2.1 C.2.2.2.2.1 hin ty0 hty hnm C.2.2.2.1 C.2.2.2.2.2.1 hP (wl_D h C.2.2.2.2.2.2.1) hS o ((wl_get ho).trans (by rw [cE_obj hoc])) hc j hjN (va_Nw.use rfl (C.2.2.2.2.2.2.2.2.2 _ hl0)) (fun _ h9 => h9) hfin (hty j hjN) hn hfit (by simpa using hj) d (fun H1 locs1 hP1 _ hS1 => g H1 locs1 ls hl (by rw [← set_putL hoc hd]; exact hP1) hS1)
theorem V.iald {k : KX} {cc : ByteArray} {own : String} {nL : Nat} {Rm : Room} {pc : Nat} {lv : List (Nat × Value)} {st : List Value} {h : Hp} (C : Cx k cc own nL Rm) {o n : Nat} {i : Int32} (ho : o < 34) (hoc : oC o = none) (ha : aT o = (0, n)) (hin : ¬ (i < 0 ∨ n ≤ i.toNatClampNeg)) {v : Int32} (hv : h.1 o i.toNatClampNeg = v) (d : decode cc pc = .ok (.iaload, 1)) (g : V k Rm nL (pc + 1) lv (.int v :: st) h) : V k Rm nL pc lv (.int i :: .ref o :: st) h := by
  intro H locs ls hl hP hS
  subst hv
  exact va_iald (D := kD k) C.1 C.2.1 C.2.2.2.2.2.1 hP o 0 ((wl_get ho).trans (by rw [cE_arr hoc, ha]; rfl)) rfl hin d (g H locs ls hl hP hS)
theorem V.bald {k : KX} {cc : ByteArray} {own : String} {nL : Nat} {Rm : Room} {pc : Nat} {lv : List (Nat × Value)} {st : List Value} {h : Hp} (C : Cx k cc own nL Rm) {o n : Nat} {i : Int32} (ho : o < 34) (hoc : oC o = none) (ha : aT o = (1, n)) (hin : ¬ (i < 0 ∨ n ≤ i.toNatClampNeg)) {v : Int32} (hv : h.1 o i.toNatClampNeg = v) (d : decode cc pc = .ok (.baload, 1)) (g : V k Rm nL (pc + 1) lv (.int v :: st) h) : V k Rm nL pc lv (.int i :: .ref o :: st) h := by
  intro H locs ls hl hP hS
  subst hv
  exact va_bald (D := kD k) C.1 C.2.1 C.2.2.2.2.2.1 hP o 1 ((wl_get ho).trans (by rw [cE_arr hoc, ha]; rfl)) rfl hin d (g H locs ls hl hP hS)
theorem V.zald {k : KX} {cc : ByteArray} {own : String} {nL : Nat} {Rm : Room} {pc : Nat} {lv : List (Nat × Value)} {st : List Value} {h : Hp} (C : Cx k cc own nL Rm) {o n : Nat} {i : Int32} (ho : o < 34) (hoc : oC o = none) (ha : aT o = (2, n)) (hin : ¬ (i < 0 ∨ n ≤ i.toNatClampNeg)) {v : Int32} (hv : h.1 o i.toNatClampNeg = v) (d : decode cc pc = .ok (.baload, 1)) (g : V k Rm nL (pc + 1) lv (.int v :: st) h) : V k Rm nL pc lv (.int i :: .ref o :: st) h := by
  intro H locs ls hl hP hS
  subst hv
  exact va_zald (D := kD k) C.1 C.2.1 C.2.2.2.2.2.1 hP o 2 ((wl_get ho).trans (by rw [cE_arr hoc, ha]; rfl)) rfl hin d (g H locs ls hl hP hS)
theorem V.iast {k : KX} {cc : ByteArray} {own : String} {nL : Nat} {Rm : Room} {pc : Nat} {lv : List (Nat × Value)} {st : List Value} {h : Hp} (C : Cx k cc own nL Rm) {o n : Nat} {i : Int32} (ho : o < 34) (hoc : oC o = none) (ha : aT o = (0, n)) (hin : ¬ (i < 0 ∨ n ≤ i.toNatClampNeg)) {v : Int32} {h2 : Hp} (hh : sI h o i.toNatClampNeg v = h2) (d : decode cc pc = .ok (.iastore, 1)) (g : V k Rm nL (pc + 1) lv st h2) : V k Rm nL pc lv (.int v :: .int i :: .ref o :: st) h := by
  intro H locs ls hl hP hS
  subst hh
  exact va_iast (D := kD k) C.1 C.2.1 C.2.2.2.2.2.1 hP (wl_D h C.2.2.2.2.2.2.1) hS o 0 ((wl_get ho).trans (by rw [cE_arr hoc, ha]; rfl)) rfl hin d (fun H1 locs1 hP1 _ hS1 => g H1 locs1 ls hl (by rw [← set_arr (h := h) hoc sI_o.symm (fun i hi => sI_n hi), ha]; exact hP1) hS1)
theorem V.bast {k : KX} {cc : ByteArray} {own : String} {nL : Nat} {Rm : Room} {pc : Nat} {lv : List (Nat × Value)} {st : List Value} {h : Hp} (C : Cx k cc own nL Rm) {o n : Nat} {i : Int32} (ho : o < 34) (hoc : oC o = none) (ha : aT o = (1, n)) (hin : ¬ (i < 0 ∨ n ≤ i.toNatClampNeg)) {v : Int32} {h2 : Hp} {w : Int32} (hw : vp_nar .byte v = w) (hh : sI h o i.toNatClampNeg w = h2) (d : decode cc pc = .ok (.bastore, 1)) (g : V k Rm nL (pc + 1) lv st h2) : V k Rm nL pc lv (.int v :: .int i :: .ref o :: st) h := by
  intro H locs ls hl hP hS
  subst hw
  subst hh
  exact va_bast (D := kD k) C.1 C.2.1 C.2.2.2.2.2.1 hP (wl_D h C.2.2.2.2.2.2.1) hS o 1 ((wl_get ho).trans (by rw [cE_arr hoc, ha]; rfl)) rfl hin d (fun H1 locs1 hP1 _ hS1 => g H1 locs1 ls hl (by rw [← set_arr (h := h) hoc sI_o.symm (fun i hi => sI_n hi), ha]; exact hP1) hS1)
theorem V.zast {k : KX} {cc : ByteArray} {own : String} {nL : Nat} {Rm : Room} {pc : Nat} {lv : List (Nat × Value)} {st : List Value} {h : Hp} (C : Cx k cc own nL Rm) {o n : Nat} {i : Int32} (ho : o < 34) (hoc : oC o = none) (ha : aT o = (2, n)) (hin : ¬ (i < 0 ∨ n ≤ i.toNatClampNeg)) {v : Int32} {h2 : Hp} {w : Int32} (hw : vp_nar .boolean v = w) (hh : sI h o i.toNatClampNeg w = h2) (d : decode cc pc = .ok (.bastore, 1)) (g : V k Rm nL (pc + 1) lv st h2) : V k Rm nL pc lv (.int v :: .int i :: .ref o :: st) h := by
  intro H locs ls hl hP hS
  subst hw
  subst hh
  exact va_zast (D := kD k) C.1 C.2.1 C.2.2.2.2.2.1 hP (wl_D h C.2.2.2.2.2.2.1) hS o 2 ((wl_get ho).trans (by rw [cE_arr hoc, ha]; rfl)) rfl hin d (fun H1 locs1 hP1 _ hS1 => g H1 locs1 ls hl (by rw [← set_arr (h := h) hoc sI_o.symm (fun i hi => sI_n hi), ha]; exact hP1) hS1)
theorem V.alen {k : KX} {cc : ByteArray} {own : String} {nL : Nat} {Rm : Room} {pc : Nat} {lv : List (Nat × Value)} {st : List Value} {h : Hp} (C : Cx k cc own nL Rm) {o n : Nat} {v : Int32} (ho : o < 34) (hoc : oC o = none) (ha : aT o = (0, n)) (hv : Int32.ofNat n = v) (d : decode cc pc = .ok (.arraylength, 1)) (g : V k Rm nL (pc + 1) lv (.int v :: st) h) : V k Rm nL pc lv (.ref o :: st) h := by
  intro H locs ls hl hP hS
  exact va_alen (D := kD k) C.1 C.2.1 C.2.2.2.2.2.1 hP o 0 ((wl_get ho).trans (by rw [cE_arr hoc, ha]; rfl)) rfl hv d (g H locs ls hl hP hS)
theorem V.acopy {k : KX} {cc : ByteArray} {own : String} {nL : Nat} {Rm : Room} {pc : Nat} {lv : List (Nat × Value)} {st : List Value} {h : Hp} (C : Cx k cc own nL Rm) {a b na nb i : Nat} {sp dp n : Int32} {h2 : Hp} (hb0 : b < 34) (ha0 : a < 34) (hoa : oC a = none) (hob : oC b = none) (hta : aT a = (0, na)) (htb : aT b = (0, nb)) (hq : ¬ sp < 0 ∧ ¬ dp < 0 ∧ ¬ n < 0 ∧ sp.toNatClampNeg + n.toNatClampNeg ≤ na ∧ dp.toNatClampNeg + n.toNatClampNeg ≤ nb) (hh : sC h a sp.toNatClampNeg b dp.toNatClampNeg n.toNatClampNeg = h2) (hw : Cond.methodLink own i arraycopyName ∈ wsG ∧ Cond.native arraycopyName ∈ wsG ∧ Cond.static arraycopyName ∈ wsG ∧ Cond.initialized "java/lang/System" ∈ wsG) (hfr : 1 ≤ Rm.frames) (hlo : (st.map fun v => v.category).sum + (nativeFrameWords "java/lang/System" "arraycopy" 5 + 11) ≤ Rm.locals) (d : decode cc pc = .ok (.invokestatic i, 3)) (g : V k Rm nL (pc + 3) lv st h2) : V k Rm nL pc lv (.int n :: .int dp :: .ref b :: .int sp :: .ref a :: st) h := by
  intro H locs ls hl hP hS
  subst hh
  obtain ⟨q1, q2, q3, q4, q5⟩ := hq
  refine va_copyi (D := kD k) (ty := .int) C.1 C.2.1 (C.2.2.1.trans hl.1.symm) C.2.2.2.1 (C.2.2.2.2.1 _ hw.1) (C.2.2.2.2.1 _ hw.2.1) (C.2.2.2.2.1 _ hw.2.2.1) (C.2.2.2.2.1 _ hw.2.2.2) C.2.2.2.2.2.1 hP (wl_D h C.2.2.2.2.2.2.1) hS a b 0 0 ((wl_get ha0).trans (by rw [cE_arr hoa, hta]; rfl)) ((wl_get hb0).trans (by rw [cE_arr hob, htb]; rfl)) rfl rfl rfl q1 q2 q3 q4 q5 (fun _ _ => rfl) hfr ?_ d (fun H1 locs1 hP1 _ hS1 => g H1 locs1 ls hl (by rw [← set_arr (h := h) hob sC_o.symm (fun i hi => sC_n hi), htb]; exact hP1) hS1)
  rw [List.map_map]
  simpa only [Function.comp_def, tr_cat] using hlo
theorem V.mmax {k : KX} {cc : ByteArray} {own : String} {nL : Nat} {Rm : Room} {pc : Nat} {lv : List (Nat × Value)} {st : List Value} {h : Hp} (C : Cx k cc own nL Rm) {x y : Int32} {i : Nat} (hw : Cond.methodLink own i Lib.Math.max.name ∈ wsG ∧ Cond.static Lib.Math.max.name ∈ wsG ∧ Cond.initialized "java/lang/Math" ∈ wsG ∧ Cond.code Lib.Math.max.name Lib.Math.max.code 2 (some .int) ∈ wsG) (hfr : 1 ≤ Rm.frames) (hlo : (st.map fun v => v.category).sum + 13 ≤ Rm.locals) (d : decode cc pc = .ok (.invokestatic i, 3)) (g : V k Rm nL (pc + 3) lv (.int (if x < y then y else x) :: st) h) : V k Rm nL pc lv (.int y :: .int x :: st) h := by
  intro H locs ls hl hP hS
  refine va_mmax C.1 C.2.1 (C.2.2.1.trans hl.1.symm) C.2.2.2.1 (C.2.2.2.2.1 _ hw.1) (C.2.2.2.2.1 _ hw.2.1) (C.2.2.2.2.1 _ hw.2.2.1) (C.2.2.2.2.1 _ hw.2.2.2) hfr ?_ C.2.2.2.2.2.2.2.2.1.1 C.2.2.2.2.2.2.2.2.1.2 d (g H locs ls hl hP hS)
  rw [List.map_map]
  simpa only [Function.comp_def, tr_cat] using hlo
theorem V.mmin {k : KX} {cc : ByteArray} {own : String} {nL : Nat} {Rm : Room} {pc : Nat} {lv : List (Nat × Value)} {st : List Value} {h : Hp} (C : Cx k cc own nL Rm) {x y : Int32} {i : Nat} (hw : Cond.methodLink own i Lib.Math.min.name ∈ wsG ∧ Cond.static Lib.Math.min.name ∈ wsG ∧ Cond.initialized "java/lang/Math" ∈ wsG ∧ Cond.code Lib.Math.min.name Lib.Math.min.code 2 (some .int) ∈ wsG) (hfr : 1 ≤ Rm.frames) (hlo : (st.map fun v => v.category).sum + 13 ≤ Rm.locals) (d : decode cc pc = .ok (.invokestatic i, 3)) (g : V k Rm nL (pc + 3) lv (.int (if y < x then y else x) :: st) h) : V k Rm nL pc lv (.int y :: .int x :: st) h := by
  intro H locs ls hl hP hS
  refine va_mmin C.1 C.2.1 (C.2.2.1.trans hl.1.symm) C.2.2.2.1 (C.2.2.2.2.1 _ hw.1) (C.2.2.2.2.1 _ hw.2.1) (C.2.2.2.2.1 _ hw.2.2.1) (C.2.2.2.2.1 _ hw.2.2.2) hfr ?_ C.2.2.2.2.2.2.2.2.1.1 C.2.2.2.2.2.2.2.2.1.2 d (g H locs ls hl hP hS)
  rw [List.map_map]
  simpa only [Function.comp_def, tr_cat] using hlo
theorem gdC {w : Cond} (h : w ∈ wsG) : GoodIn wsG (w :: wsG) := fun x hx => (List.mem_cons.mp hx).elim (fun e => by rw [e]; exact ⟨h, good_of_word (wsG_good w h)⟩) (fun hx => ⟨hx, good_of_word (wsG_good x hx)⟩)
theorem gdA {us ws : List Cond} (h : ∀ w ∈ us, w ∈ wsG) (g : GoodIn wsG ws) : GoodIn wsG (us ++ ws) := fun x hx => (List.mem_append.mp hx).elim (fun hx => ⟨h x hx, good_of_word (wsG_good x (h x hx))⟩) (g x)
theorem gdV {own Cn : String} {i : Nat} {y : MethodName} {w : Cond} (h1 : Cond.methodLink own i y ∈ wsG) (h2 : Cond.instanceMethod y ∈ wsG) (h3 : Cond.selects Cn y y ∈ wsG) (h4 : Cond.initialized Cn ∈ wsG) (h5 : w ∈ wsG) : GoodIn wsG (wsV own i Cn y (w :: wsG)) :=
  gdA (List.forall_mem_cons.mpr ⟨h1, List.forall_mem_cons.mpr ⟨h2, List.forall_mem_cons.mpr ⟨h3, List.forall_mem_cons.mpr ⟨h4, fun _ h => absurd h List.not_mem_nil⟩⟩⟩⟩) (gdC h5)
theorem gdS {own : String} {i : Nat} {y : MethodName} {w : Cond} (h1 : Cond.methodLink own i y ∈ wsG) (h2 : Cond.static y ∈ wsG) (h4 : Cond.initialized y.cls ∈ wsG) (h5 : w ∈ wsG) : GoodIn wsG (va_wsS own i y (w :: wsG)) :=
  gdA (List.forall_mem_cons.mpr ⟨h1, List.forall_mem_cons.mpr ⟨h2, List.forall_mem_cons.mpr ⟨h4, fun _ h => absurd h List.not_mem_nil⟩⟩⟩) (gdC h5)
theorem lv_args_tr (ad : Nat → Nat) (xs : List Value) : ∀ i, lv_args i (xs.map (tr ad)) = trL ad (lv_args i xs) := by
  induction xs with
  | nil => intro i; rfl
  | cons v t ih =>
    intro i
    show (i, tr ad v) :: lv_args (if (tr ad v).category = 2 then i + 2 else i + 1) (t.map (tr ad)) = (i, tr ad v) :: trL ad (lv_args (if v.category = 2 then i + 2 else i + 1) t)
    rw [tr_cat, ih]
/-- behind a call -/
theorem call_W {p : Program} {l : Launch} {e : Env} {R : Room} {s : State} {m : MethodId} {args : Array Value} {below : List Frame} {meth : Method} {c : Code} {H : Heap} {locs : List Loc} {cells slots : Nat} {Q : State → Prop} {pc : Nat} {ls : Array Slot} {rest st0 : List Value} {a : Array Value} {A0 A1 : Nat → Prop} {ad : Nat → Nat} {cs : Cs} {D : va_G} {rv : Option Value} {hf : Hp}
    (hr : va_Run p l e R s m args below meth c H locs cells slots 0 0 (F0 m pc ls st0) rest (qR ad cs D A1 rv hf a) A1) (hS : va_S A0 s.heap H locs) (hA : ∀ q, A1 q → A0 q)
    (kk : ∀ (H1 : Heap) (locs1 : List Loc), va_P D vwCl (wl ad cs hf) H1 → va_S A0 s.heap H1 locs1 → W p l e R s m args below meth c H1 locs1 cells slots Q (F0 m (pc + 3) ls ((rv.map (tr ad)).toList ++ rest))) : W p l e R s m args below meth c H locs cells slots Q (F0 m pc ls st0) := by
  intro T hT X
  obtain ⟨v, st₀, t, T', L, h0, X', hL, e1, e2, ⟨hv, hP, hz, hk⟩, st⟩ := hr T hT X
  cases hv
  rw [h0] at hz hk
  obtain ⟨t2, a1, b1⟩ := kk T'.heap (locs ++ L) (by rw [e1]; exact hP)
    ⟨Nat.le_trans hS.1 (by rw [e1]; exact hz), fun q h1 h2 => by rw [e1, hk q (Nat.lt_of_lt_of_le h1 hS.1) (fun z => h2 (hA q z))]; exact hS.2.1 q h1 h2, fun q hq => by
      rcases List.mem_append.mp hq with h | h
      · exact hS.2.2 q h
      · exact hA _ (hL q h)⟩ T' rfl X'
  exact ⟨t2, st t2 a1, b1⟩
theorem ws_pre {k : KX} {cc : ByteArray} {own : String} {nL : Nat} {Rm : Room} (C : Cx k cc own nL Rm) {h : Hp} {H : Heap} (hP : va_P (kD k) vwCl (wl (kAd k) (kCs k) h) H) {U : State} (hU : U.heap = H) (hW : (kS k).WarmedH U.vm) : wsOf (kAd k) (kCs k) (kD k) H.size h U :=
  ⟨by rw [hU], by rw [hU]; exact hP, va_K.moved hW.alike C.2.2.2.2.2.1, (wl_D h C.2.2.2.2.2.2.1).weaken (fun _ _ _ _ => trivial), fun w hw => nest_warm hW (nestW_is w hw) (C.2.2.2.2.2.2.2.2.2 w hw)⟩
theorem ws_blind {ad : Nat → Nat} {cs : Cs} {D : va_G} {sz : Nat} {h : Hp} {xs : List Value} : FrameBlind (va_Pc xs (wsOf ad cs D sz h)) := by
  intro a U g mk q
  obtain ⟨q0, q1, q2, q3, q4, q5⟩ := q
  exact ⟨q0, q1, q2, va_K.moved (u := U) (U := U.calling g mk a) (Vm.Alike.refl U.vm) q3, q4, fun w hw => nest_same (s := U) (U := U.calling g mk a) rfl (nestW_is w hw) (q5 w hw)⟩
theorem ws_free {k : KX} {cc : ByteArray} {own : String} {nL : Nat} {Rm : Room} (C : Cx k cc own nL Rm) {h : Hp} {H : Heap} {locs : List Loc} (hS : va_S (kF k) (kS k).heap H locs) : ∀ q, va_A (wl (kAd k) (kCs k) h) H.size q → kF k q := by
  intro q hq
  rcases hq with ⟨i, e, hi⟩ | hq
  · obtain ⟨h1, h2⟩ := wl_inv hi
    have h3 : q = kAd k i := congrArg Prod.fst h2
    rw [h3]
    exact C.2.2.2.2.2.2.1.2 i h1
  · exact C.2.2.2.2.2.2.2.1 q (Nat.le_trans hS.1 hq)
theorem tr_rev (ad : Nat → Nat) (As rest : List Value) : (As.reverse ++ rest).map (tr ad) = (As.map (tr ad)).reverse ++ rest.map (tr ad) := by rw [List.map_append, List.map_reverse]
theorem rv_st (ad : Nat → Nat) (rv : Option Value) (rest : List Value) : (rv.toList ++ rest).map (tr ad) = (rv.map (tr ad)).toList ++ rest.map (tr ad) := by
  cases rv <;> rfl
theorem room_tr {ad : Nat → Nat} {m : MethodId} {pc : Nat} {ls : Array Slot} {x rest : List Value} (h : (rest.map fun v => v.category).sum ≤ 8) : 2 * (F0 m pc ls x).monitorRoom + ((rest.map (tr ad)).map fun v => v.category).sum ≤ 8 := by
  apply lv_room
  rw [List.map_map]
  simpa only [Function.comp_def, tr_cat] using h
theorem V.callV {k : KX} {cc : ByteArray} {own : String} {nL : Nat} {Rm : Room} {pc : Nat} {lv : List (Nat × Value)} {h : Hp} (C : Cx k cc own nL Rm) {y : MethodName} {bytes : ByteArray} {maxL n i : Nat} {ret : Option FieldType} {rm : Room} {As rest st0 st2 : List Value} {rv : Option Value} {h1 : Hp} {o ci N : Nat} {Cn : String} {T : u_T} (ho : o < 34) (hoc : oC o = some ci) (hc : vwCl[ci]? = some (Cn, T, N)) (hM : Ct (kL k) y (Cond.code y bytes maxL ret :: wsG) rm (.ref o :: As) h rv h1) (hG : Cond.methodLink own i y ∈ wsG) (hi1 : Cond.instanceMethod y ∈ wsG) (hi2 : Cond.selects Cn y y ∈ wsG) (hi3 : Cond.initialized Cn ∈ wsG) (hi4 : Cond.code y bytes maxL ret ∈ wsG) (hrc : rm.cells = 0) (hrs : rm.slots = 0) (hd : y.cls = Cn ∧ y.cls ≠ "java/lang/invoke/MethodHandle" ∧ y.cls ≠ "java/lang/invoke/VarHandle" ∧ (parseMethodDescriptor y.desc).map (fun d => d.parameters.length) = some n) (hR : rm.frames + 1 ≤ Rm.frames ∧ 8 + (maxL + 11) + rm.locals ≤ Rm.locals) (hn : As.length = n) (hcat : (rest.map fun v => v.category).sum ≤ 8) (d : decode cc pc = .ok (.invokevirtual i, 3)) (e0 : st0 = As.reverse ++ .ref o :: rest) (e2 : st2 = rv.toList ++ rest) (g : V k Rm nL (pc + 3) lv st2 h1) : V k Rm nL pc lv st0 h := by
  intro H locs ls hl hP hS
  subst e0
  subst e2
  rw [tr_rev]
  refine call_W (va_runV (As := As.map (tr (kAd k))) (rest := rest.map (tr (kAd k))) (b := kAd k o) (C := Cn) ⟨C.1, C.2.1, C.2.2.1, C.2.2.2.1, C.2.2.2.2.1⟩ (hM (kAd k) (kCs k) (kD k) H.size) (cwV n C.2.2.2.2.1 (gdV hG hi1 hi2 hi3 hi4) rfl hrc hrs hd hR) ⟨ws_blind, va_recv C.2.2.2.2.2.1 hP hc ((wl_get ho).trans (by rw [cE_obj hoc])), fun U hU hW => ⟨rfl, ws_pre C hP hU hW⟩⟩ rfl (by rw [List.length_map]; exact hn) hl.1 rfl (room_tr hcat) d ⟨C.2.2.2.2.2.2.2.2.1.1, C.2.2.2.2.2.2.2.2.1.2⟩) hS (ws_free C hS) (fun H1 locs1 hP1 hS1 => ?_)
  rw [← rv_st]
  exact g H1 locs1 ls hl hP1 hS1
theorem V.callS {k : KX} {cc : ByteArray} {own : String} {nL : Nat} {Rm : Room} {pc : Nat} {lv : List (Nat × Value)} {h : Hp} (C : Cx k cc own nL Rm) {y : MethodName} {bytes : ByteArray} {maxL n i : Nat} {ret : Option FieldType} {rm : Room} {As rest st0 st2 : List Value} {rv : Option Value} {h1 : Hp} (hM : Ct (kL k) y (Cond.code y bytes maxL ret :: wsG) rm As h rv h1) (hG : Cond.methodLink own i y ∈ wsG) (hi1 : Cond.static y ∈ wsG) (hi3 : Cond.initialized y.cls ∈ wsG) (hi4 : Cond.code y bytes maxL ret ∈ wsG) (hrc : rm.cells = 0) (hrs : rm.slots = 0) (hd : y.cls ≠ "java/lang/invoke/MethodHandle" ∧ y.cls ≠ "java/lang/invoke/VarHandle" ∧ (parseMethodDescriptor y.desc).map (fun d => d.parameters.length) = some n) (hR : rm.frames + 1 ≤ Rm.frames ∧ 8 + (maxL + 11) + rm.locals ≤ Rm.locals) (hn : As.length = n) (hcat : (rest.map fun v => v.category).sum ≤ 8) (d : decode cc pc = .ok (.invokestatic i, 3)) (e0 : st0 = As.reverse ++ rest) (e2 : st2 = rv.toList ++ rest) (g : V k Rm nL (pc + 3) lv st2 h1) : V k Rm nL pc lv st0 h := by
  intro H locs ls hl hP hS
  subst e0
  subst e2
  rw [tr_rev]
  refine call_W (va_runS (As := As.map (tr (kAd k))) (rest := rest.map (tr (kAd k))) ⟨C.1, C.2.1, C.2.2.1, C.2.2.2.1, C.2.2.2.2.1⟩ (hM (kAd k) (kCs k) (kD k) H.size) (va_cwS n C.2.2.2.2.1 (gdS hG hi1 hi3 hi4) rfl hrc hrs hd hR) ⟨ws_blind, fun U hU hW => ⟨rfl, ws_pre C hP hU hW⟩⟩ rfl (by rw [List.length_map]; exact hn) hl.1 rfl (room_tr hcat) d ⟨C.2.2.2.2.2.2.2.2.1.1, C.2.2.2.2.2.2.2.2.1.2⟩) hS (ws_free C hS) (fun H1 locs1 hP1 hS1 => ?_)
  rw [← rv_st]
  exact g H1 locs1 ls hl hP1 hS1
theorem V.callN {k : KX} {cc : ByteArray} {own : String} {nL : Nat} {Rm : Room} {pc : Nat} {lv : List (Nat × Value)} {h : Hp} (C : Cx k cc own nL Rm) {y : MethodName} {bytes : ByteArray} {maxL n i : Nat} {ret : Option FieldType} {rm : Room} {As rest st0 st2 : List Value} {rv : Option Value} {h1 : Hp} {host : String} (hM : Ct (kL k) y (Cond.code y bytes maxL ret :: wsG) rm As h rv h1) (hi4 : Cond.code y bytes maxL ret ∈ wsG) (hnw : Cond.methodLinkNest own i y host ∈ nestW) (hst : Cond.static y ∈ wsG) (hini : Cond.initialized y.cls ∈ wsG) (hrc : rm.cells = 0) (hrs : rm.slots = 0) (hd : y.cls ≠ "java/lang/invoke/MethodHandle" ∧ y.cls ≠ "java/lang/invoke/VarHandle" ∧ (parseMethodDescriptor y.desc).map (fun d => d.parameters.length) = some n) (hR : rm.frames + 1 ≤ Rm.frames ∧ 8 + (maxL + 11) + rm.locals ≤ Rm.locals) (hn : As.length = n) (hcat : (rest.map fun v => v.category).sum ≤ 8) (d : decode cc pc = .ok (.invokestatic i, 3)) (e0 : st0 = As.reverse ++ rest) (e2 : st2 = rv.toList ++ rest) (g : V k Rm nL (pc + 3) lv st2 h1) : V k Rm nL pc lv st0 h := by
  intro H locs ls hl hP hS
  subst e0
  subst e2
  rw [tr_rev]
  refine call_W (va_runSN (host := host) (As := As.map (tr (kAd k))) (rest := rest.map (tr (kAd k))) ⟨C.1, C.2.1, C.2.2.1, C.2.2.2.1, C.2.2.2.2.1⟩ (hM (kAd k) (kCs k) (kD k) H.size) ⟨va_cnB n C.2.2.2.2.1 (gdC hi4) rfl hrc hrs (C.2.2.2.2.2.2.2.2.2 _ hnw) (C.2.2.2.2.1 _ hini) hd hR, C.2.2.2.2.1 _ hst, trivial⟩ ⟨ws_blind, fun U hU hW => ⟨rfl, ws_pre C hP hU hW⟩⟩ rfl (by rw [List.length_map]; exact hn) hl.1 rfl (room_tr hcat) d ⟨C.2.2.2.2.2.2.2.2.1.1, C.2.2.2.2.2.2.2.2.1.2⟩) hS (ws_free C hS) (fun H1 locs1 hP1 hS1 => ?_)
  rw [← rv_st]
  exact g H1 locs1 ls hl hP1 hS1

theorem V.iret {k : KX} {cc : ByteArray} {own : String} {nL : Nat} {Rm : Room} {pc : Nat} {lv : List (Nat × Value)} {h hf : Hp} {x r : Int32} (C : Cx k cc own nL Rm) (T : Rx k (some .int) (some (.int r)) hf) (hs : some (x, h) = some (r, hf)) (d : decode cc pc = .ok (.ireturn, 1)) : V k Rm nL pc lv [.int x] h := by
  cases hs
  intro H locs ls hl hP hS
  rw [T.1, T.2.2.2.1, T.2.2.2.2]
  exact W.iret C.1 C.2.1 T.2.1 (fun t ht _ => ⟨rfl, by rw [ht]; exact hP, hS.F ht⟩) hS.2.2 d T.2.2.1
theorem V.lret {k : KX} {cc : ByteArray} {own : String} {nL : Nat} {Rm : Room} {pc : Nat} {lv : List (Nat × Value)} {h hf : Hp} {x r : Int64} (C : Cx k cc own nL Rm) (T : Rx k (some .long) (some (.long r)) hf) (hs : some (x, h) = some (r, hf)) (d : decode cc pc = .ok (.lreturn, 1)) : V k Rm nL pc lv [.long x] h := by
  cases hs
  intro H locs ls hl hP hS
  rw [T.1, T.2.2.2.1, T.2.2.2.2]
  exact W.lret C.1 C.2.1 T.2.1 (fun t ht _ => ⟨rfl, by rw [ht]; exact hP, hS.F ht⟩) hS.2.2 d T.2.2.1
theorem V.zret {k : KX} {cc : ByteArray} {own : String} {nL : Nat} {Rm : Room} {pc : Nat} {lv : List (Nat × Value)} {h hf : Hp} {x r : Int32} (C : Cx k cc own nL Rm) (T : Rx k (some .boolean) (some (.int r)) hf) (hn : x = 0 ∨ x = 1) (hs : some (x, h) = some (r, hf)) (d : decode cc pc = .ok (.ireturn, 1)) : V k Rm nL pc lv [.int x] h := by
  cases hs
  intro H locs ls hl hP hS
  rw [T.1, T.2.2.2.1, T.2.2.2.2]
  exact W.zret C.1 C.2.1 T.2.1 (by rcases hn with rfl | rfl <;> rfl) (fun t ht _ => ⟨rfl, by rw [ht]; exact hP, hS.F ht⟩) hS.2.2 d T.2.2.1
theorem V.vret {k : KX} {cc : ByteArray} {own : String} {nL : Nat} {Rm : Room} {pc : Nat} {lv : List (Nat × Value)} {h hf : Hp} (C : Cx k cc own nL Rm) (T : Rx k none none hf) (hs : some h = some hf) (d : decode cc pc = .ok (.return_, 1)) : V k Rm nL pc lv [] h := by
  cases hs
  intro H locs ls hl hP hS
  rw [T.1, T.2.2.2.1, T.2.2.2.2]
  exact W.vret C.1 C.2.1 T.2.1 (fun t ht _ => ⟨rfl, by rw [ht]; exact hP, hS.F ht⟩) hS.2.2 d T.2.2.1
theorem V.aret {k : KX} {cc : ByteArray} {own : String} {nL : Nat} {Rm : Room} {pc : Nat} {lv : List (Nat × Value)} {h hf : Hp} {x r : Nat} {n : String} (C : Cx k cc own nL Rm) (T : Rx k (some (.object n)) (some (.ref r)) hf) (hs : some (x, h) = some (r, hf)) (d : decode cc pc = .ok (.areturn, 1)) : V k Rm nL pc lv [.ref x] h := by
  cases hs
  intro H locs ls hl hP hS
  rw [T.1, T.2.2.2.1, T.2.2.2.2]
  exact W.aret C.1 C.2.1 T.2.1 (Or.inl ⟨n, rfl⟩) (Or.inr ⟨_, rfl⟩) (fun t ht _ => ⟨rfl, by rw [ht]; exact hP, hS.F ht⟩) hS.2.2 d T.2.2.1
/-- a contract out of a walk -/
theorem Ct.of {l : Launch} {y : MethodName} {cc : ByteArray} {nL : Nat} {ret : Option FieldType} {Rm : Room} {xs : List Value} {h hf : Hp} {rv : Option Value} (hy : plainName y.cls = true) (hlen : ∀ ad, (lg_sl (xs.map (tr ad))).length ≤ nL)
    (body : ∀ k : KX, Cx k cc y.cls nL Rm → Rx k ret rv hf → V k Rm nL 0 (lv_args 0 xs) [] h) : Ct l y (Cond.code y cc nL ret :: wsG) Rm xs h rv hf := by
  intro ad cs D sz
  refine Met.ofW (cc := cc) (maxL := nL) (ret := ret) hy rfl ?_
  intro p e s m args below meth c s₁ B hml hv
  obtain ⟨rfl, rfl, hP, hK, hD0, hN⟩ := hv
  have hts0 := atoms_spec (ws := Cond.code y cc nL ret :: wsG) B.pre
  have hts : ∀ w ∈ wsG, w.before (xs.map (tr ad)).toArray s = true := fun w hw => hts0 w (List.mem_cons_of_mem _ hw)
  have hown : s.vm.findClass y.cls = some m.cls := findClass_of_methodNamed B.named
  have hD := hD0.self (sz := s.heap.size)
  have hA : ∀ q : Nat, s.heap.size ≤ q → va_A (wl ad cs h) s.heap.size q := fun q h => Or.inr h
  have hl := lv_entry (xs.map (tr ad)) (n := nL) (hlen ad)
  have ha : lv_args 0 (xs.map (tr ad)) = trL ad (lv_args 0 xs) := lv_args_tr ad xs 0
  rw [ha] at hl
  rw [lg_entry_eq]
  exact body ((p, l, e), (s, m, (xs.map (tr ad)).toArray, below, meth, c), (0, 0, MQ below (qR ad cs D (va_A (wl ad cs h) s.heap.size) rv hf) (xs.map (tr ad)).toArray s 0 0 (va_A (wl ad cs h) s.heap.size)), (ad, cs, D, va_A (wl ad cs h) s.heap.size))
    ⟨B.exec, B.bytes, hml, hown, hts, hK, wl_Di hD, hA, ⟨Nat.zero_le _, Nat.zero_le _⟩, hN⟩ ⟨rfl, B.returns, B.notSynchronized, rfl, rfl⟩ s.heap [] _ hl hP va_S.rf
