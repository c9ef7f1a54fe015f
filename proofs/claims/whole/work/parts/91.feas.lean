/-! Whether there is a cover does not depend on how; what the best matches are -/
theorem Cq.wgh_4 (Q : Cq) (bs : Nat → Bst) {d : Nat} (hd : d < 2 ^ 31) (P : Pns) (x : Bst) : ((Q.wgh bs d P x).1 == -4) = ((x.1 == -4) && !(Q.can bs P 6)) := by
  unfold Cq.wgh
  cases hc : Q.can bs P 6 with
  | false => rw [Bool.false_and, if_neg (by decide)]; simp
  | true =>
    rw [Bool.true_and]
    cases hx : (x.1 == -4) with
    | true => rw [Bool.true_or, if_pos rfl]; simp only [m4_nI hd]; rfl
    | false =>
      rw [Bool.false_or]
      split
      · simp only [m4_nI hd]; rfl
      · rw [hx]; rfl
theorem Cq.can_cg {Q Q' : Cq} {bs bs' : Nat → Bst} {P : Pns} (h : ∀ u, Q.hv bs u = Q'.hv bs' u) : ∀ p, Q.can bs P p = Q'.can bs' P p
  | 0 => rfl
  | p + 1 => by rw [Cq.can, Cq.can, Cq.can_cg h p, h]
/-- another how -/
def Cq.wh (Q : Cq) (how : Int32) : Cq := mkQ Q.g Q.m Q.ov Q.c Q.lib Q.th how Q.wo
theorem Cq.tf_4 {Q : Cq} {how : Int32} {bs bs' : Nat → Bst} {v d : Nat} (hd : d < 2 ^ 31) {x x' : Bst} (h : ∀ u, Q.hv bs u = (Q.wh how).hv bs' u) (hx : (x.1 == -4) = (x'.1 == -4)) : ∀ t, ((Q.tf bs v d x t).1 == -4) = (((Q.wh how).tf bs' v d x' t).1 == -4)
  | 0 => hx
  | t + 1 => by
    have ih := Cq.tf_4 (v := v) hd h hx t
    rw [Cq.tf, Cq.tf]
    show _ = ((if ft Q.g Q.rt (Q.lib d) v t then _ else _ : Bst).1 == -4)
    cases hf : ft Q.g Q.rt (Q.lib d) v t with
    | false => rw [if_neg (by decide), if_neg (by decide)]; exact ih
    | true =>
      rw [if_pos rfl, if_pos rfl, Cq.wgh_4 _ _ hd, Cq.wgh_4 _ _ hd, ih]
      show _ = (_ && !(Cq.can (Q.wh how) bs' (pn Q.g Q.rt (Q.lib d) v t) 6))
      rw [Cq.can_cg h 6]
theorem Cq.cf_4 {Q : Cq} {how : Int32} {bs bs' : Nat → Bst} {v : Nat} (h : ∀ u, Q.hv bs u = (Q.wh how).hv bs' u) : ∀ d, d < 2 ^ 31 → ((Q.cf bs v d).1 == -4) = (((Q.wh how).cf bs' v d).1 == -4)
  | 0, _ => rfl
  | d + 1, hd => by
    have ih := Cq.cf_4 (v := v) h d (by omega)
    rw [Cq.cf, Cq.cf]
    show _ = ((if Q.th d = true ∧ ¬ nI d = Q.wo then _ else _ : Bst).1 == -4)
    by_cases hq : Q.th d = true ∧ ¬ nI d = Q.wo
    · rw [if_pos hq, if_pos hq]; exact Cq.tf_4 (by omega) h ih _
    · rw [if_neg hq, if_neg hq]; exact ih
theorem Cq.bs_4 {Q : Cq} (how : Int32) (hc : Q.c < 2 ^ 31) : ∀ v u, ((Q.bs v u).1 == -4) = (((Q.wh how).bs v u).1 == -4)
  | 0, _ => rfl
  | v + 1, u => by
    have ih := Cq.bs_4 (Q := Q) how hc v
    have hh : ∀ u, Q.hv (Q.bs v) u = (Q.wh how).hv ((Q.wh how).bs v) u := fun u => by
      unfold Cq.hv
      rw [ih u]
      rfl
    show ((if u = v then Q.b1 (Q.bs v) v else Q.bs v u).1 == -4) = ((if u = v then (Q.wh how).b1 ((Q.wh how).bs v) v else (Q.wh how).bs v u).1 == -4)
    by_cases e : u = v
    · rw [if_pos e, if_pos e]
      show ((if Q.lv v = true ∧ (Q.g.2 v).1 ≠ 0 then Q.cf (Q.bs v) v Q.c else b0).1 == -4) = ((if Q.lv v = true ∧ (Q.g.2 v).1 ≠ 0 then (Q.wh how).cf ((Q.wh how).bs v) v Q.c else b0).1 == -4)
      by_cases hq : Q.lv v = true ∧ (Q.g.2 v).1 ≠ 0
      · rw [if_pos hq, if_pos hq]; exact Cq.cf_4 hh _ hc
      · rw [if_neg hq, if_neg hq]
    · rw [if_neg e, if_neg e]; exact ih u
/-- whether a root has no match does not depend on how -/
theorem Cq.bad_wh {Q : Cq} (how : Int32) (hc : Q.c < 2 ^ 31) (v : Nat) : Q.isBad v = (Q.wh how).isBad v := by
  have := Cq.bs_4 (Q := Q) how hc (v + 1) v
  rw [Cq.bs_lt Q (by omega), Cq.bs_lt (Q.wh how) (by omega)] at this
  unfold Cq.isBad
  rw [this]
  rfl
theorem gfind_cg {p q : Nat → Bool} (h : ∀ v, p v = q v) : ∀ n, gfind p n = gfind q n
  | 0 => rfl
  | n + 1 => by rw [gfind, gfind, gfind_cg h n, h]
/-- a match that was chosen -/
def Cq.cho (Q : Cq) (bs : Nat → Bst) (v : Nat) (x : Bst) : Prop := ∃ d t, d < Q.c ∧ Q.th d = true ∧ ¬ nI d = Q.wo ∧ t < tns (Q.lib d) ∧ ft Q.g Q.rt (Q.lib d) v t = true ∧ x.1 = nI d ∧ x.2.2.2 = pn Q.g Q.rt (Q.lib d) v t ∧ Q.can bs x.2.2.2 6 = true
theorem Cq.tf_cho {Q : Cq} {bs : Nat → Bst} {v d : Nat} {x : Bst} (hd : d < Q.c) (ht : Q.th d = true) (hw : ¬ nI d = Q.wo) (hx : x = b0 ∨ Q.cho bs v x) : ∀ t, t ≤ tns (Q.lib d) → Q.tf bs v d x t = b0 ∨ Q.cho bs v (Q.tf bs v d x t)
  | 0, _ => hx
  | t + 1, h => by
    have ih := Cq.tf_cho hd ht hw hx t (by omega)
    rw [Cq.tf]
    cases hf : ft Q.g Q.rt (Q.lib d) v t with
    | false => rw [if_neg (by decide)]; exact ih
    | true =>
      rw [if_pos rfl]
      unfold Cq.wgh
      split
      · rename_i hc
        exact Or.inr ⟨d, t, hd, ht, hw, by omega, hf, rfl, rfl, (Bool.and_eq_true_iff.mp hc).1⟩
      · exact ih
theorem Cq.cf_cho {Q : Cq} {bs : Nat → Bst} {v : Nat} : ∀ d, d ≤ Q.c → Q.cf bs v d = b0 ∨ Q.cho bs v (Q.cf bs v d)
  | 0, _ => Or.inl rfl
  | d + 1, h => by
    have ih := Cq.cf_cho (Q := Q) (bs := bs) (v := v) d (by omega)
    rw [Cq.cf]
    by_cases hq : Q.th d = true ∧ ¬ nI d = Q.wo
    · rw [if_pos hq]; exact Cq.tf_cho (by omega) hq.1 hq.2 ih _ (Nat.le_refl _)
    · rw [if_neg hq]; exact ih
/-- of each vertex: no match, or a chosen one -/
theorem Cq.b1_cho (Q : Cq) (v : Nat) : Q.b1 (Q.bs v) v = b0 ∨ (Q.lv v = true ∧ (Q.g.2 v).1 ≠ 0 ∧ Q.cho (Q.bs v) v (Q.b1 (Q.bs v) v)) := by
  unfold Cq.b1
  by_cases hq : Q.lv v = true ∧ (Q.g.2 v).1 ≠ 0
  · rw [if_pos hq]
    rcases Cq.cf_cho (bs := Q.bs v) (v := v) Q.c (Nat.le_refl _) with h | h
    · exact Or.inl h
    · exact Or.inr ⟨hq.1, hq.2, h⟩
  · rw [if_neg hq]; exact Or.inl rfl
theorem Cq.can_at {Q : Cq} {bs : Nat → Bst} {P : Pns} : ∀ {p : Nat}, Q.can bs P p = true → ∀ {j : Nat}, j < p → P j = -4 ∨ Q.hv bs (P j).toNatClampNeg = true
  | 0, _, j, hj => absurd hj (by omega)
  | p + 1, h, j, hj => by
    rw [Cq.can] at h
    have h1 := Bool.and_eq_true_iff.mp h
    by_cases e : j = p
    · subst e
      rcases Bool.or_eq_true_iff.mp h1.2 with h2 | h2
      · exact Or.inl (eq_of_beq h2)
      · exact Or.inr h2
    · exact Cq.can_at h1.1 (by omega)
