/-! The next match: what fails behind some Ns fails for all turns that begin so -/
theorem mstep_none {g : Gr} {rt tb tb' : Nat → Bool} {s i : Nat} {q : List Nat × Pns × Nat} (h : mstep g rt tb s i q = none) : mstep g rt tb' s i q = none := by
  obtain ⟨L, P, a⟩ := q
  cases L with
  | nil => rfl
  | cons v r =>
    unfold mstep at h ⊢
    simp only at h ⊢
    by_cases h6 : s < 6
    · rw [if_pos h6] at h ⊢; exact h
    · rw [if_neg h6] at h ⊢
      by_cases hp : (g.2 v).1 = (if s = 7 then 2 else 1) ∧ (i = 0 ∨ rt v = false)
      · rw [if_pos hp] at h
        by_cases h7 : s = 7
        · rw [if_pos h7] at h; cases h
        · rw [if_neg h7] at h; cases h
      · rw [if_neg hp]
theorem mstep_some {g : Gr} {rt tb tb' : Nat → Bool} {s i : Nat} {q q' : List Nat × Pns × Nat} (h : mstep g rt tb s i q = some q') : q'.2.2 = q.2.2 + (if s = 7 then 1 else 0) ∧ ((s = 7 → tb' q.2.2 = tb q.2.2) → mstep g rt tb' s i q = some q') := by
  obtain ⟨L, P, a⟩ := q
  cases L with
  | nil => cases h
  | cons v r =>
    unfold mstep at h ⊢
    simp only at h ⊢
    by_cases h6 : s < 6
    · rw [if_pos h6] at h
      rw [if_pos h6, if_neg (show ¬ s = 7 by omega)]
      refine ⟨?_, fun _ => h⟩
      by_cases hp : P s = -4 ∨ P s = nI v
      · rw [if_pos hp] at h; cases h; rfl
      · rw [if_neg hp] at h; cases h
    · rw [if_neg h6] at h
      rw [if_neg h6]
      by_cases hp : (g.2 v).1 = (if s = 7 then 2 else 1) ∧ (i = 0 ∨ rt v = false)
      · rw [if_pos hp] at h
        rw [if_pos hp]
        by_cases h7 : s = 7
        · rw [if_pos h7] at h
          rw [if_pos h7, if_pos h7]
          cases h
          exact ⟨rfl, fun e => by rw [e h7]⟩
        · rw [if_neg h7] at h
          rw [if_neg h7, if_neg h7]
          cases h
          exact ⟨rfl, fun _ => rfl⟩
      · rw [if_neg hp] at h; cases h
theorem mrun_cg {g : Gr} {rt : Nat → Bool} {sy : Nat → Nat} {tb tb' : Nat → Bool} : ∀ (f i : Nat) (q : List Nat × Pns × Nat), (mrun g rt sy tb f i q).1 = false → (∀ j, j < (mrun g rt sy tb f i q).2.1 → tb' j = tb j) → (mrun g rt sy tb' f i q).1 = false ∧ q.2.2 ≤ (mrun g rt sy tb f i q).2.1
  | 0, i, q, h, _ => by cases h
  | f + 1, i, q, h, hj => by
    rw [mrun] at h hj
    rw [mrun, mrun]
    cases hm : mstep g rt tb (sy i) i q with
    | none =>
      rw [mstep_none (tb' := tb') hm]
      exact ⟨rfl, Nat.le_refl _⟩
    | some q' =>
      rw [hm] at h hj
      obtain ⟨e1, e2⟩ := mstep_some (tb' := tb') hm
      have ih := mrun_cg (tb' := tb') f (i + 1) q' h hj
      have e3 := e2 (fun h7 => hj q.2.2 (by
        have := ih.2
        rw [e1, if_pos h7] at this
        simp only at this ⊢
        omega))
      rw [e3]
      exact ⟨ih.1, by have := ih.2; simp only at this ⊢; omega⟩
/-- a whole tree has at most 5 Ns -/
def pns (sy : Nat → Nat) (k : Nat) : Nat := ctB (fun i => decide (sy i < 6)) k
theorem pend_sum {sy : Nat → Nat} {k : Nat} (h : ∀ i, i < k → sy i ≤ 7 ∧ pend sy i ≠ []) : ∀ {i : Nat}, i ≤ k → (pend sy i).length + pns sy i = 1 + nns sy i ∧ pns sy i + nns sy i ≤ i
  | 0, _ => ⟨rfl, Nat.le_refl 0⟩
  | i + 1, hi => by
    obtain ⟨h1, h2⟩ := pend_sum h (i := i) (by omega)
    obtain ⟨h3, h4⟩ := h i (by omega)
    have h5 : 0 < (pend sy i).length := List.length_pos_iff.mpr h4
    rw [pend_len h4]
    unfold pns nns nxd at *
    rw [ctB, ctB]
    by_cases a : sy i = 7
    · simp [a]; omega
    · by_cases b : sy i = 6
      · simp [b]; omega
      · simp [a, b, show sy i < 6 by omega]; omega
theorem nns_5 {q : Cel} (h : okCel q) : nns q.2.2.2 q.2.2.1 ≤ 5 := by
  obtain ⟨h1, h2, h3, h4, h5⟩ := h
  obtain ⟨a, b⟩ := pend_sum h3 (Nat.le_refl _)
  rw [h4] at a
  simp at a
  omega
/-- how the search of the class goes on behind a failure -/
def tOr (t m : Nat) : Nat := t / 2 ^ m * 2 ^ m + (2 ^ m - 1)
theorem tOr_i : ∀ t, t < 32 → ∀ m, m < 6 → nI t ||| (((1 : Int32) <<< (nI m &&& 31)) - 1) = nI (tOr t m) := by decide
theorem shl_i : ∀ m, m < 6 → ((1 : Int32) <<< (nI m &&& 31)) = nI (2 ^ m) := by decide
theorem tbt_i : ∀ t, t < 32 → ∀ s, s < 5 → decide (((nI t >>> (nI s &&& 31)) &&& 1) = 1) = decide (t / 2 ^ s % 2 = 1) := by decide
theorem tOr_le {t n m : Nat} (hn : n ≤ 5) (hm : m ≤ n) (ht : t < 2 ^ n) : t ≤ tOr t m ∧ tOr t m < 2 ^ n := by
  unfold tOr
  have h0 : 0 < 2 ^ m := Nat.two_pow_pos m
  have h1 := Nat.div_add_mod t (2 ^ m)
  have h2 := Nat.mod_lt t h0
  rw [Nat.mul_comm] at h1
  refine ⟨by omega, ?_⟩
  have h3 : 2 ^ n = 2 ^ (n - m) * 2 ^ m := by rw [← Nat.pow_add]; congr 1; omega
  have h4 : t / 2 ^ m < 2 ^ (n - m) := by
    rw [Nat.div_lt_iff_lt_mul h0, ← h3]; exact ht
  have h5 : (t / 2 ^ m + 1) * 2 ^ m ≤ 2 ^ (n - m) * 2 ^ m := Nat.mul_le_mul_right _ h4
  rw [Nat.add_mul] at h5
  omega
theorem tOr_hi {t t' m s : Nat} (h1 : t ≤ t') (h2 : t' ≤ tOr t m) (hs : m ≤ s) : t' / 2 ^ s = t / 2 ^ s := by
  have h0 : 0 < 2 ^ m := Nat.two_pow_pos m
  have e : t' / 2 ^ m = t / 2 ^ m := by
    unfold tOr at h2
    apply Nat.le_antisymm
    · apply Nat.le_of_lt_succ
      rw [Nat.div_lt_iff_lt_mul h0, Nat.succ_mul]
      omega
    · exact Nat.div_le_div_right h1
  have h3 : 2 ^ s = 2 ^ m * 2 ^ (s - m) := by rw [← Nat.pow_add]; congr 1; omega
  rw [h3, ← Nat.div_div_eq_div_mul, ← Nat.div_div_eq_div_mul, e]
theorem tbt_hi {n t t' r : Nat} (hn : n ≤ 5) (hr : r ≤ n) (ht' : t' < 2 ^ n) (h1 : t ≤ t') (h2 : t' ≤ tOr t (n - r)) {j : Nat} (hj : j < r) : tbt n (nI t') j = tbt n (nI t) j := by
  have h5 : 2 ^ n ≤ 2 ^ 5 := Nat.pow_le_pow_right (by decide) hn
  have h5 : 2 ^ n ≤ 32 := h5
  unfold tbt
  rw [tbt_i t' (by omega) _ (by omega), tbt_i t (by omega) _ (by omega), tOr_hi h1 h2 (by omega)]
/-- is there a match with these turns -/
def ft (g : Gr) (rt : Nat → Bool) (q : Cel) (top : Nat) (t : Nat) : Bool := (mat g rt q.2.2.2 q.2.2.1 top (tbt (nns q.2.2.2 q.2.2.1) (nI t))).1
def pn (g : Gr) (rt : Nat → Bool) (q : Cel) (top : Nat) (t : Nat) : Pns := (mat g rt q.2.2.2 q.2.2.1 top (tbt (nns q.2.2.2 q.2.2.1) (nI t))).2.2
/-- how many turns there are -/
def tns (q : Cel) : Nat := 2 ^ nns q.2.2.2 q.2.2.1
theorem tns_le {q : Cel} (h : okCel q) : 1 ≤ tns q ∧ tns q ≤ 32 := by
  have h5 : 2 ^ nns q.2.2.2 q.2.2.1 ≤ 2 ^ 5 := Nat.pow_le_pow_right (by decide) (nns_5 h)
  exact ⟨Nat.two_pow_pos _, h5⟩
/-- all that the class's matcher needs -/
def McA (g : Gr) (rt : Nat → Bool) (c top : Nat) (q : Cel) (S : St) : Prop := g.1 ≤ 160 ∧ wfG g ∧ c < 20 ∧ okCel q ∧ top < g.1 ∧ McE g rt c q.2.2.1 q.2.2.2 S ∧ S 5 0 4 = nI top
theorem mat_nle {g : Gr} {rt : Nat → Bool} {sy : Nat → Nat} {tb : Nat → Bool} : ∀ (f i : Nat) (q : List Nat × Pns × Nat), q.2.2 = nns sy i → (mrun g rt sy tb f i q).2.1 ≤ nns sy (i + f)
  | 0, i, q, h => by rw [mrun]; exact Nat.le_of_eq h
  | f + 1, i, q, h => by
    rw [mrun]
    cases hm : mstep g rt tb (sy i) i q with
    | none => exact Nat.le_trans (Nat.le_of_eq h) (nns_le (by omega))
    | some q' =>
      have : q'.2.2 = nns sy (i + 1) := by
        rw [(mstep_some (tb' := tb) hm).1, h]
        by_cases h7 : sy i = 7
        · rw [if_pos h7, nns_7 h7]
        · rw [if_neg h7, nns_n7 h7]; rfl
      have := mat_nle (g := g) (rt := rt) (tb := tb) f (i + 1) q' this
      rw [show i + 1 + f = i + (f + 1) from by omega] at this
      exact this
/-- the first turns from t0 on -/
theorem c_nextl {g : Gr} {rt : Nat → Bool} {c top : Nat} {q : Cel} : ∀ (f t : Nat) (S : St), t ≤ tns q → tns q - t < f → McA g rt c top q S → (∃ S', l_X4_next_24 f S (nI (tns q)) (nI t) = some (0, S') ∧ Same [(25, 0), (26, 0), (5, 0)] S S' ∧ S' 5 0 3 = S 5 0 3 ∧ S' 5 0 4 = S 5 0 4 ∧ S' 5 0 5 = nI (tns q) ∧ ∀ u, t ≤ u → u < tns q → ft g rt q top u = false) ∨ (∃ S' u, l_X4_next_24 f S (nI (tns q)) (nI t) = some (1, S') ∧ Same [(25, 0), (26, 0), (5, 0)] S S' ∧ S' 5 0 3 = S 5 0 3 ∧ S' 5 0 4 = S 5 0 4 ∧ S' 5 0 5 = nI (u + 1) ∧ t ≤ u ∧ u < tns q ∧ ft g rt q top u = true ∧ (∀ w, t ≤ w → w < u → ft g rt q top w = false) ∧ ∀ p, p < 6 → S' 26 0 p = pn g rt q top u p) := by
  intro f
  induction f with
  | zero => intro t S _ h; exact absurd h (by omega)
  | succ f ih =>
    intro t S ht hf hA
    obtain ⟨hg, hw, hc, ho, htp, hM, h4⟩ := id hA
    have h32 := tns_le ho
    rw [show l_X4_next_24 (f + 1) = b_X4_next_24 (l_X4_next_24 f) from rfl]
    unfold b_X4_next_24
    by_cases e : t = tns q
    · subst e
      rw [if_pos (nI_le (Nat.le_refl _) (by omega)), lt_]
      exact Or.inl ⟨_, rfl, Same.rf.put (by decide), put_j (by decide), put_j (by decide), put_self _ _ _ _ _, fun u h1 h2 => absurd h1 (by omega)⟩
    · have hlt : t < tns q := by omega
      obtain ⟨S1, a1, a2, a3⟩ := c_lay hg hw (rt := rt) hc ho.2.1 (fun i hi => ho.2.2.1 i hi) htp (nI t) hM h4
      rw [if_neg (nI_ge hlt (by omega)), bi_e a1]
      cases hft : ft g rt q top t with
      | true =>
        have hft' : (mat g rt q.2.2.2 q.2.2.1 top (tbt (nns q.2.2.2 q.2.2.1) (nI t))).1 = true := hft
        rw [if_pos hft', if_pos rfl, lt_, nI_1]
        refine Or.inr ⟨_, t, rfl, (a2.mono (by decide)).put (by decide), ?_, ?_, put_self _ _ _ _ _, Nat.le_refl _, hlt, hft, fun w h1 h2 => absurd h1 (by omega), fun p hp => ?_⟩
        · rw [put_j (by decide), a2 5 0 (by decide)]
        · rw [put_j (by decide), a2 5 0 (by decide)]
        · rw [put_o rfl]; exact a3 hft' p hp
      | false =>
        have hft' : (mat g rt q.2.2.2 q.2.2.1 top (tbt (nns q.2.2.2 q.2.2.1) (nI t))).1 = false := hft
        generalize hr : (mat g rt q.2.2.2 q.2.2.1 top (tbt (nns q.2.2.2 q.2.2.1) (nI t))).2.1 = r
        have hrn : r ≤ nns q.2.2.2 q.2.2.1 := by
          rw [← hr]
          have := mat_nle (g := g) (rt := rt) (sy := q.2.2.2) (tb := tbt (nns q.2.2.2 q.2.2.1) (nI t)) q.2.2.1 0 ([top], fun _ => -4, 0) rfl
          rw [Nat.zero_add] at this
          exact this
        have n5 := nns_5 ho
        have hM1 := hM.same a2
        have hne : ¬ nI r = -1 := fun e => by
          have := congrArg Int32.toInt e
          rw [nI_toInt (by omega), show (-1 : Int32).toInt = -1 from by decide] at this
          omega
        have htm := tOr_le (m := nns q.2.2.2 q.2.2.1 - r) n5 (by omega) hlt
        rw [if_neg (show ¬ (mat g rt q.2.2.2 q.2.2.1 top (tbt (nns q.2.2.2 q.2.2.1) (nI t))).1 = true by rw [hft']; decide), if_neg hne, hM1.2.2.2.2.2, if_neg (nI_pos (show c < 2 ^ 31 by omega)), gd_t (ix_nI hc (by decide)), nI_clamp (show c < 2 ^ 31 by omega), hM1.2.2.2.1, pk_sub hrn, tOr_i t (by omega) _ (by omega), lt_, lt_, nI_1]
        have hfa : ∀ u, t ≤ u → u ≤ tOr t (nns q.2.2.2 q.2.2.1 - r) → ft g rt q top u = false := fun u h1 h2 => by
          refine (mrun_cg (tb' := tbt (nns q.2.2.2 q.2.2.1) (nI u)) q.2.2.1 0 ([top], fun _ => -4, 0) hft' (fun j hj => ?_)).1
          have hj : j < r := by rw [← hr]; exact hj
          exact tbt_hi n5 hrn (show u < tns q from Nat.lt_of_le_of_lt h2 htm.2) h1 h2 hj
        have hA1 : McA g rt c top q S1 := ⟨hg, hw, hc, ho, htp, hM1, by rw [a2 5 0 (by decide)]; exact h4⟩
        have tl : tOr t (nns q.2.2.2 q.2.2.1 - r) + 1 ≤ tns q := htm.2
        rcases ih (tOr t (nns q.2.2.2 q.2.2.1 - r) + 1) S1 tl (by omega) hA1 with ⟨S', b1, b2, b3, b4, b5, b6⟩ | ⟨S', u, b1, b2, b3, b4, b5, b6, b7, b8, b9, b10⟩
        · refine Or.inl ⟨S', b1, (a2.mono (by decide)).tr b2, by rw [b3, a2 5 0 (by decide)], by rw [b4, a2 5 0 (by decide)], b5, fun u h1 h2 => ?_⟩
          by_cases z : u ≤ tOr t (nns q.2.2.2 q.2.2.1 - r)
          · exact hfa u h1 z
          · exact b6 u (by omega) h2
        · refine Or.inr ⟨S', u, b1, (a2.mono (by decide)).tr b2, by rw [b3, a2 5 0 (by decide)], by rw [b4, a2 5 0 (by decide)], b5, by omega, b7, b8, fun w h1 h2 => ?_, b10⟩
          by_cases z : w ≤ tOr t (nns q.2.2.2 q.2.2.1 - r)
          · exact hfa w h1 z
          · exact b9 w (by omega) h2
