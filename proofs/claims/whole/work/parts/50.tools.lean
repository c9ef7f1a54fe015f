/-! Tools of the pure layer: which rows of a state may differ; numbers; one step of a loop. -/
def Same (ex : List (Nat × Nat)) (S S' : St) : Prop := ∀ k i, (k, i) ∉ ex → S' k i = S k i
theorem Same.rf {ex : List (Nat × Nat)} {S : St} : Same ex S S := fun _ _ _ => rfl
theorem Same.tr {ex : List (Nat × Nat)} {S S1 S2 : St} (h1 : Same ex S S1) (h2 : Same ex S1 S2) : Same ex S S2 := fun k i h => (h2 k i h).trans (h1 k i h)
theorem Same.mono {ex ex' : List (Nat × Nat)} {S S' : St} (h : Same ex S S') (hs : ∀ q ∈ ex, q ∈ ex') : Same ex' S S' := fun k i hn => h k i (fun hm => hn (hs _ hm))
theorem Same.put {ex : List (Nat × Nat)} {S S1 : St} {k i j : Nat} {v : Int32} (h : Same ex S S1) (hm : (k, i) ∈ ex) : Same ex S (put S1 k i j v) := fun k' i' hn => by
  rw [put_ne (fun q => hn (by rw [q.1, q.2]; exact hm))]
  exact h k' i' hn
theorem put_o {S : St} {k i j : Nat} {v : Int32} {k' i' : Nat} (h : (k' == k && i' == i) = false) : put S k i j v k' i' = S k' i' := put_ne (fun q => by simp [q.1, q.2] at h)
theorem put_j {S : St} {k i j : Nat} {v : Int32} {j' : Nat} (h : j' ≠ j) : put S k i j v k i j' = S k i j' := by
  rw [put_row]; exact if_neg h
theorem put_jj (S : St) (k i j : Nat) (v : Int32) (j' : Nat) : put S k i j v k i j' = if j' = j then v else S k i j' := by
  rw [put_row]; rfl
/-- numbers -/
theorem ix_iff {a n : Nat} (hn : n < 2 ^ 31) (ha : a < 2 ^ 31) : ix (nI a) n = decide (a < n) := by
  unfold ix
  rw [nI_toInt ha]
  exact decide_eq_decide.mpr (by omega)
theorem ix_t {x : Int32} {a n : Nat} (e : x = nI a) (h : a < n) (hn : n < 2 ^ 31) : ix x n = true := by rw [e]; exact ix_nI h hn
theorem nI_m1 {a : Nat} (h : 0 < a) : nI a + (-1) = nI (a - 1) := by
  obtain ⟨b, rfl⟩ : ∃ b, a = b + 1 := ⟨a - 1, by omega⟩
  exact pk_m1 b
theorem nI_s1 {a : Nat} (h : 0 < a) : nI a - 1 = nI (a - 1) := by
  obtain ⟨b, rfl⟩ : ∃ b, a = b + 1 := ⟨a - 1, by omega⟩
  exact nI_pred b
theorem i32_eq {x y : Int32} (h : x.toInt = y.toInt) : x = y := Int32.toInt_inj.mp h
theorem nI_of0 {x : Int32} (h : ¬ x < 0) : x = nI x.toNatClampNeg := by
  obtain ⟨j, hj, e⟩ := nI_of h
  rw [e, nI_clamp hj]
theorem clampI {x : Int32} (h : ¬ x < 0) : (x.toNatClampNeg : Int) = x.toInt := by
  unfold Int32.toNatClampNeg
  have : 0 ≤ x.toInt := by
    rw [Int32.lt_iff_toInt_lt, Int32.toInt_zero] at h
    omega
  omega
/-- is a number 0 .. n - 1 -/
def inR (x : Int32) (n : Nat) : Bool := decide (0 ≤ x.toInt ∧ x.toInt < n)
theorem inR_nI {a n : Nat} (ha : a < 2 ^ 31) : inR (nI a) n = decide (a < n) := by
  unfold inR
  rw [nI_toInt ha]
  exact decide_eq_decide.mpr (by omega)
theorem inR_t {x : Int32} {n : Nat} (h : inR x n = true) (hn : n < 2 ^ 31) : ∃ a, a < n ∧ x = nI a := by
  have h1 := of_decide_eq_true h
  refine ⟨x.toInt.toNat, by omega, i32_eq ?_⟩
  rw [nI_toInt (by omega)]
  omega
theorem inR_lt {x : Int32} {n : Nat} (h : inR x n = true) : x.toNatClampNeg < n := ix_lt h
def b01 (b : Bool) : Int32 := if b then 1 else 0
theorem b01_0 (b : Bool) : (b01 b = 0) = (b = false) := by cases b <;> simp [b01]
theorem bz_b01 (b : Bool) : bz (b01 b) = true := by cases b <;> decide
theorem nz_b01 (b : Bool) : nz (b01 b) = b01 b := by cases b <;> decide
