/-! The base of this proof: ONE world a system. The object graph of the class (and of the reference) stands still after its constructor: no call makes a cell, and all references but one are final. So a state is a function of three numbers: S k i j: the j-th int of the i-th cell of kind k (a kind: a class, or one array field). Each method is told by a function over such states (f_..), printed by a program out of the bytecode beside its proof; 'none' is where the machine would throw or the fuel ends. -/
abbrev St : Type := Nat → Nat → Nat → Int32
def stp (S : St) (k i : Nat) (y : Nat → Int32) : St := fun k' i' => if k' = k ∧ i' = i then y else S k' i'
/-- the state with one number changed -/
def put (S : St) (k i j : Nat) (v : Int32) : St := stp S k i (upd (S k i) j v)
theorem put_self (S : St) (k i j : Nat) (v : Int32) : put S k i j v k i j = v := by simp [put, stp, upd]
theorem put_row (S : St) (k i j : Nat) (v : Int32) : put S k i j v k i = upd (S k i) j v := by simp [put, stp]
theorem put_at (S : St) (k i j : Nat) (v : Int32) (k' i' j' : Nat) : put S k i j v k' i' j' = if k' = k ∧ i' = i ∧ j' = j then v else S k' i' j' := by
  unfold put stp upd
  by_cases h : k' = k ∧ i' = i
  · obtain ⟨rfl, rfl⟩ := h
    simp
  · rw [if_neg h]
    rw [if_neg (fun q => h ⟨q.1, q.2.1⟩)]
theorem put_ne {S : St} {k i j : Nat} {v : Int32} {k' i' : Nat} (h : ¬ (k' = k ∧ i' = i)) : put S k i j v k' i' = S k' i' := by
  unfold put stp
  rw [if_neg h]
/-- the machine's own check of an index -/
def ix (i : Int32) (n : Nat) : Bool := decide (0 ≤ i.toInt ∧ i.toInt < n)
theorem ix_in {i : Int32} {n : Nat} (h : ix i n = true) : vp_in i n := vp_in_iff.mpr (of_decide_eq_true h)
theorem ix_lt {i : Int32} {n : Nat} (h : ix i n = true) : i.toNatClampNeg < n := by
  have h1 := of_decide_eq_true h
  unfold Int32.toNatClampNeg
  omega
theorem ix_nI {a n : Nat} (h : a < n) (hn : n < 2 ^ 31) : ix (nI a) n = true := by
  unfold ix
  rw [nI_toInt (by omega)]
  exact decide_eq_true (by omega)
def gd {α : Type} (b : Bool) (a : Option α) : Option α := match b with
  | true => a
  | false => none
theorem gd_some {α : Type} {b : Bool} {a : Option α} {z : α} (h : gd b a = some z) : b = true ∧ a = some z := by
  cases b with
  | true => exact ⟨rfl, h⟩
  | false => cases h
theorem gd_t {α : Type} {b : Bool} {a : Option α} (h : b = true) : gd b a = a := by subst h; rfl
def lt_ {α β : Type} (a : α) (k : α → β) : β := k a
theorem lt_n {α β : Type} {a v : α} {k : α → β} {z : β} (e : v = a) (h : lt_ a k = z) : k v = z := by subst e; exact h
/-- a call: what it answers, the state behind it -/
def bi {α γ : Type} (x : Option (α × St)) (k : α → St → Option γ) : Option γ := match x with
  | none => none
  | some q => k q.1 q.2
theorem bi_some {α γ : Type} {x : Option (α × St)} {k : α → St → Option γ} {z : γ} (h : bi x k = some z) : ∃ r S, x = some (r, S) ∧ k r S = some z := by
  cases x with
  | none => cases h
  | some q => exact ⟨q.1, q.2, rfl, h⟩
theorem bi_e {α γ : Type} {x : Option (α × St)} {k : α → St → Option γ} {r : α} {S : St} (h : x = some (r, S)) : bi x k = k r S := by subst h; rfl
def bv {γ : Type} (x : Option St) (k : St → Option γ) : Option γ := match x with
  | none => none
  | some q => k q
theorem bv_some {γ : Type} {x : Option St} {k : St → Option γ} {z : γ} (h : bv x k = some z) : ∃ q, x = some q ∧ k q = some z := by
  cases x with
  | none => cases h
  | some q => exact ⟨q, rfl, h⟩
theorem bv_e {γ : Type} {x : Option St} {k : St → Option γ} {S : St} (h : x = some S) : bv x k = k S := by subst h; rfl
/-- a number that a boolean can be -/
def bz (x : Int32) : Bool := decide (x = 0 ∨ x = 1)
theorem bz_n {x : Int32} (h : bz x = true) : narrow .boolean (.int x) = .int x := by
  rcases of_decide_eq_true h with rfl | rfl <;> decide
theorem bz_f {x : Int32} (h : bz x = true) : fits .boolean (.int x) = true := by
  rcases of_decide_eq_true h with rfl | rfl <;> decide
/-- how a boolean array keeps a number -/
def nz (x : Int32) : Int32 := vp_nar .boolean x
theorem nz_0 : nz 0 = 0 := by decide
theorem nz_1 : nz 1 = 1 := by decide
