/-! The heap of the 34 cells that the law makes, by numbers of our own (0 .. 33): what a cell's places hold. -/
abbrev Hp : Type := (Nat → Nat → Int32) × (Nat → Nat → Int64)
def sI (h : Hp) (o k : Nat) (v : Int32) : Hp := (fun a j => bif (a == o && j == k) then v else h.1 a j, h.2)
def sL (h : Hp) (o k : Nat) (v : Int64) : Hp := (h.1, fun a j => bif (a == o && j == k) then v else h.2 a j)
def sC (h : Hp) (a sp b dp n : Nat) : Hp := (fun o j => bif (o == b && decide (dp ≤ j ∧ j < dp + n)) then h.1 a (sp + (j - dp)) else h.1 o j, h.2)
/-- a load and a store at a place that isn't known -/
def ld (h : Hp) (a n : Nat) (i : Int32) : Option Int32 := if i < 0 ∨ n ≤ i.toNatClampNeg then none else some (h.1 a i.toNatClampNeg)
def st (h : Hp) (a n : Nat) (i v : Int32) : Option Hp := if i < 0 ∨ n ≤ i.toNatClampNeg then none else some (sI h a i.toNatClampNeg v)
def cpc (h : Hp) (a na : Nat) (sp : Int32) (b nb : Nat) (dp n : Int32) : Option Hp := if sp < 0 ∨ dp < 0 ∨ n < 0 ∨ na < sp.toNatClampNeg + n.toNatClampNeg ∨ nb < dp.toNatClampNeg + n.toNatClampNeg then none else some (sC h a sp.toNatClampNeg b dp.toNatClampNeg n.toNatClampNeg)
def zb (x : Int32) (h : Hp) : Option (Int32 × Hp) := if x = 0 ∨ x = 1 then some (x, h) else none
theorem fu_ex : ∃ n : Nat, n = 1000000 := ⟨_, rfl⟩
noncomputable def fu : Nat := Classical.choose fu_ex
theorem fu_eq : fu = 1000000 := Classical.choose_spec fu_ex
theorem o_bind {α β : Type} {x : Option α} {f : α → Option β} {y : β} (h : x.bind f = some y) : ∃ a, x = some a ∧ f a = some y := by
  cases x with
  | none => cases h
  | some a => exact ⟨a, rfl, h⟩
def b2 {α β γ : Type} (x : Option (α × β)) (f : α → β → Option γ) : Option γ := x.bind (fun q => f q.1 q.2)
theorem o_b2 {α β γ : Type} {x : Option (α × β)} {f : α → β → Option γ} {y : γ} (h : b2 x f = some y) : ∃ a b, x = some (a, b) ∧ f a b = some y := by
  cases x with
  | none => cases h
  | some q => exact ⟨q.1, q.2, rfl, h⟩
def itr {α : Type} (f : α → α) (z : α) : Nat → α
  | 0 => z
  | n + 1 => f (itr f z n)
theorem o_ld {β : Type} {h : Hp} {a n : Nat} {i : Int32} {f : Int32 → Option β} {y : β} (e : (ld h a n i).bind f = some y) : ∃ v, h.1 a i.toNatClampNeg = v ∧ ¬ (i < 0 ∨ n ≤ i.toNatClampNeg) ∧ f v = some y := by
  unfold ld at e
  by_cases c : i < 0 ∨ n ≤ i.toNatClampNeg
  · rw [if_pos c] at e; cases e
  · rw [if_neg c] at e; exact ⟨_, rfl, c, e⟩
theorem o_st {β : Type} {h : Hp} {a n : Nat} {i v : Int32} {f : Hp → Option β} {y : β} (e : (st h a n i v).bind f = some y) : ∃ h2, sI h a i.toNatClampNeg v = h2 ∧ ¬ (i < 0 ∨ n ≤ i.toNatClampNeg) ∧ f h2 = some y := by
  unfold st at e
  by_cases c : i < 0 ∨ n ≤ i.toNatClampNeg
  · rw [if_pos c] at e; cases e
  · rw [if_neg c] at e; exact ⟨_, rfl, c, e⟩
theorem o_cp {β : Type} {h : Hp} {a na b nb : Nat} {sp dp n : Int32} {f : Hp → Option β} {y : β} (e : (cpc h a na sp b nb dp n).bind f = some y) : ∃ h2, sC h a sp.toNatClampNeg b dp.toNatClampNeg n.toNatClampNeg = h2 ∧ (¬ sp < 0 ∧ ¬ dp < 0 ∧ ¬ n < 0 ∧ sp.toNatClampNeg + n.toNatClampNeg ≤ na ∧ dp.toNatClampNeg + n.toNatClampNeg ≤ nb) ∧ f h2 = some y := by
  unfold cpc at e
  by_cases c : sp < 0 ∨ dp < 0 ∨ n < 0 ∨ na < sp.toNatClampNeg + n.toNatClampNeg ∨ nb < dp.toNatClampNeg + n.toNatClampNeg
  · rw [if_pos c] at e; cases e
  · rw [if_neg c] at e
    exact ⟨_, rfl, ⟨fun q => c (Or.inl q), fun q => c (Or.inr (Or.inl q)), fun q => c (Or.inr (Or.inr (Or.inl q))), Nat.le_of_not_lt fun q => c (Or.inr (Or.inr (Or.inr (Or.inl q)))), Nat.le_of_not_lt fun q => c (Or.inr (Or.inr (Or.inr (Or.inr q))))⟩, e⟩
theorem o_zb {x r : Int32} {h hf : Hp} (e : zb x h = some (r, hf)) : (x = 0 ∨ x = 1) ∧ some (x, h) = some (r, hf) := by
  unfold zb at e
  by_cases c : x = 0 ∨ x = 1
  · rw [if_pos c] at e; exact ⟨c, e⟩
  · rw [if_neg c] at e; cases e
theorem o_nz {β : Type} {c : Prop} {_ : Decidable c} {x : Option β} {y : β} (e : (if c then none else x) = some y) : ¬ c ∧ x = some y := by
  by_cases q : c
  · rw [if_pos q] at e; cases e
  · rw [if_neg q] at e; exact ⟨q, e⟩
theorem o_if {β : Type} {c : Prop} {_ : Decidable c} {x z : Option β} {y : Option β} (q : c) (e : (if c then x else z) = y) : x = y := (if_pos q).symm.trans e
theorem o_el {β : Type} {c : Prop} {_ : Decidable c} {x z : Option β} {y : Option β} (q : ¬ c) (e : (if c then x else z) = y) : z = y := (if_neg q).symm.trans e
