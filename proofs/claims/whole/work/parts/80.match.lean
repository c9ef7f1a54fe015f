/-! MATCHES as a mathematical value: the stack of what waits, the PINs, how many Ns were laid; and how the class lays one -/
abbrev Pns : Type := Nat → Int32
def tbt (n : Nat) (t : Int32) (j : Nat) : Bool := decide (((t >>> (nI (n - (j + 1)) &&& 31)) &&& 1) = 1)
def ptA (g : Gr) (b : Bool) (v : Nat) : Nat := if b then (g.2 v).2.2 else (g.2 v).2.1
def mstep (g : Gr) (rt : Nat → Bool) (tb : Nat → Bool) (s i : Nat) (q : List Nat × Pns × Nat) : Option (List Nat × Pns × Nat) := match q.1 with
  | [] => none
  | v :: r => if s < 6 then (if q.2.1 s = -4 ∨ q.2.1 s = nI v then some (r, upd q.2.1 s (nI v), q.2.2) else none)
    else if (g.2 v).1 = (if s = 7 then 2 else 1) ∧ (i = 0 ∨ rt v = false) then (if s = 7 then some (ptA g (tb q.2.2) v :: ptA g (!(tb q.2.2)) v :: r, q.2.1, q.2.2 + 1) else some ((g.2 v).2.1 :: r, q.2.1, q.2.2)) else none
/-- whether it goes through, how many Ns were laid, the PINs -/
def mrun (g : Gr) (rt : Nat → Bool) (sy : Nat → Nat) (tb : Nat → Bool) : Nat → Nat → List Nat × Pns × Nat → Bool × Nat × Pns
  | 0, _, q => (true, q.2.2, q.2.1)
  | f + 1, i, q => match mstep g rt tb (sy i) i q with
    | none => (false, q.2.2, q.2.1)
    | some q' => mrun g rt sy tb f (i + 1) q'
def mat (g : Gr) (rt : Nat → Bool) (sy : Nat → Nat) (k top : Nat) (tb : Nat → Bool) : Bool × Nat × Pns := mrun g rt sy tb k 0 ([top], fun _ => -4, 0)
theorem nns_le {sy : Nat → Nat} {i : Nat} : ∀ {k : Nat}, i ≤ k → nns sy i ≤ nns sy k
  | 0, h => by
    have e : i = 0 := by omega
    subst e; exact Nat.le_refl _
  | k + 1, h => by
    by_cases e : i = k + 1
    · subst e; exact Nat.le_refl _
    · have := nns_le (sy := sy) (i := i) (k := k) (by omega)
      unfold nns at this ⊢
      rw [ctB]
      omega
theorem nns_7 {sy : Nat → Nat} {i : Nat} (h : sy i = 7) : nns sy (i + 1) = nns sy i + 1 := by
  unfold nns; rw [ctB]; simp [h]
theorem nns_n7 {sy : Nat → Nat} {i : Nat} (h : sy i ≠ 7) : nns sy (i + 1) = nns sy i := by
  unfold nns; rw [ctB]; simp [h]
theorem nI_m4 {a : Nat} (h : a < 2 ^ 31) : ¬ nI a = -4 := fun e => by
  have := congrArg Int32.toInt e
  rw [nI_toInt h, show (-4 : Int32).toInt = -4 from by decide] at this
  omega
/-- the class's look at one symbol -/
theorem c_fit {g : Gr} (hg : g.1 ≤ 160) {rt : Nat → Bool} {S : St} (hF : ∀ v, v < g.1 → S 9 0 v = nI (g.2 v).1) (hw : wfG g) (hR : ∀ v, v < g.1 → S 14 0 v = b01 (rt v)) {P : Pns} (hP : ∀ p, p < 6 → S 26 0 p = P p) {s i v : Nat} (hs : s ≤ 7) (hv : v < g.1) (z : Int32) (hz : (z = 0) = ¬ (i = 0)) : f_X4_fits (nI s) (nI v) z S = some (b01 (if s < 6 then decide (P s = -4 ∨ P s = nI v) else decide ((g.2 v).1 = (if s = 7 then 2 else 1) ∧ (i = 0 ∨ rt v = false))), S) := by
  unfold f_X4_fits j_X4_fits_44 j_X4_fits_27 j_X4_fits_32 j_X4_fits_76 j_X4_fits_80 j_X4_fits_81
  have e6 : ((6 : Int32) ≤ nI s) = (6 ≤ s) := propext (nI_leI (a := 6) (by decide) (by omega))
  have e7 : (nI s = 7) = (s = 7) := nI_inj (b := 7) (by omega) (by decide)
  have f2 : (nI (g.2 v).1 = 2) = ((g.2 v).1 = 2) := nI_inj (b := 2) (by have := (hw v hv).1; omega) (by decide)
  have f1 : (nI (g.2 v).1 = 1) = ((g.2 v).1 = 1) := nI_inj (b := 1) (by have := (hw v hv).1; omega) (by decide)
  simp only [e6, e7, ix_nI (show v < 160 by omega) (by decide), gd, lt_, nI_clamp (show v < 2 ^ 31 by omega), nI_clamp (show s < 2 ^ 31 by omega), hF v hv, hR v hv, show bz 1 = true from by decide, show bz 0 = true from by decide, hz, f1, f2]
  by_cases h6 : 6 ≤ s
  · rw [if_pos h6, if_neg (show ¬ s < 6 by omega)]
    by_cases h7 : s = 7
    · rw [if_pos h7, if_pos h7]
      by_cases hf : (g.2 v).1 = 2
      · rw [if_pos hf]
        by_cases hi : i = 0
        · rw [if_neg (by simp [hi])]; simp [hf, hi, b01]
        · rw [if_pos hi]
          cases rt v <;> simp [hf, hi, b01]
      · rw [if_neg hf]; simp [hf, b01]
    · rw [if_neg h7, if_neg h7]
      by_cases hf : (g.2 v).1 = 1
      · rw [if_pos hf]
        by_cases hi : i = 0
        · rw [if_neg (by simp [hi])]; simp [hf, hi, b01]
        · rw [if_pos hi]
          cases rt v <;> simp [hf, hi, b01]
      · rw [if_neg hf]; simp [hf, b01]
  · rw [if_neg h6, if_pos (show s < 6 by omega), hP s (by omega), ix_nI (show s < 6 by omega) (by decide)]
    by_cases h1 : P s = -4
    · simp [h1, b01]
    · by_cases h2 : P s = nI v
      · simp [h1, h2, b01, nI_m4 (show v < 2 ^ 31 by omega)]
      · simp [h1, h2, b01]
