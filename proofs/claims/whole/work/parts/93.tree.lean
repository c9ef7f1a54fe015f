/-! The chosen matches do not overlap -/
def insd (g : Gr) (m : Nat) (ov : Nat → Nat) (x : Nat) : Prop := lvs g m ov x = true ∧ rts g m ov x = false ∧ (g.2 x).1 ≠ 0
theorem insd_1 {g : Gr} {m : Nat} {ov : Nat → Nat} {x : Nat} (h : insd g m ov x) : UU g m ov x = 1 := by
  obtain ⟨h1, h2, h3⟩ := h
  unfold rts at h2
  rw [show (!(UU g m ov x == 0)) = true from h1, show (!((g.2 x).1 == 0)) = true from by simp [h3]] at h2
  cases e : (UU g m ov x == 1) with
  | true => exact eq_of_beq e
  | false => rw [e] at h2; simp at h2
/-- x is a part of y, on side s -/
def PrS (g : Gr) (x y : Nat) (s : Bool) : Prop := ((g.2 y).1 ≠ 0 ∧ s = false ∧ (g.2 y).2.1 = x) ∨ ((g.2 y).1 = 2 ∧ s = true ∧ (g.2 y).2.2 = x)
theorem PrS_inc {g : Gr} {x y : Nat} {s : Bool} (h : PrS g x y s) : 1 ≤ inc (g.2 y) x := by
  unfold inc
  rcases h with ⟨h1, -, h2⟩ | ⟨h1, -, h2⟩
  · rw [if_pos ⟨h1, h2⟩]; omega
  · rw [if_pos (c := (g.2 y).1 = 2 ∧ (g.2 y).2.2 = x) ⟨h1, h2⟩]; omega
/-- an inside vertex has one user -/
theorem par_uniq {g : Gr} (hw : wfG g) {m : Nat} {ov : Nat → Nat} {x y y' : Nat} {s s' : Bool} (hx : insd g m ov x) (h : PrS g x y s) (h' : PrS g x y' s') (hy : y < g.1) (hy' : y' < g.1) (hl : lvs g m ov y = true) (hl' : lvs g m ov y' = true) : y = y' ∧ s = s' := by
  have h1 := insd_1 hx
  have hs := UU_sum hw m ov x
  by_cases e : y = y'
  · subst e
    refine ⟨rfl, ?_⟩
    have h2 := inc_le_UU hw (x := x) hy hl
    rw [h1] at h2
    unfold inc at h2
    rcases h with ⟨a1, rfl, a2⟩ | ⟨a1, rfl, a2⟩
    · rcases h' with ⟨b1, rfl, b2⟩ | ⟨b1, rfl, b2⟩
      · rfl
      · rw [if_pos ⟨a1, a2⟩, if_pos ⟨b1, b2⟩] at h2; omega
    · rcases h' with ⟨b1, rfl, b2⟩ | ⟨b1, rfl, b2⟩
      · rw [if_pos ⟨b1, b2⟩, if_pos ⟨a1, a2⟩] at h2; omega
      · rfl
  · have h2 := smD_ge2 (p := fun w => if UU g m ov w = 0 then 0 else inc (g.2 w) x) (n := g.1) e (Nat.le_refl _) hy hy' (by omega) (by omega)
    simp only [if_neg (lvs_t.mp hl), if_neg (lvs_t.mp hl')] at h2
    have := PrS_inc h
    have := PrS_inc h'
    omega
/-- a match that lies at v, with PINs P -/
def Mt (g : Gr) (m : Nat) (ov : Nat → Nat) (v : Nat) (P : Pns) (k : Nat) (sy li : Nat → Nat) (ta : Nat → Bool) : Prop := li 0 = v ∧ 6 ≤ sy 0 ∧ (∀ i, 0 < i → i < k → ∃ o b r sd, pend sy i = some (o, b) :: r ∧ o < i ∧ li i < li o ∧ li o < g.1 ∧ lvs g m ov (li o) = true ∧ lvs g m ov (li i) = true ∧ 6 ≤ sy o ∧ (o = 0 ∨ insd g m ov (li o)) ∧ PrS g (li i) (li o) sd ∧ ((sy o = 7 ∧ sd = Bool.xor b (ta o)) ∨ (sy o ≠ 7 ∧ b = false))) ∧ ∀ p, p < 6 → P p = -4 ∨ ∃ i, 0 < i ∧ i < k ∧ sy i = p ∧ P p = nI (li i)
theorem ft_Mt {g : Gr} (hw : wfG g) {m : Nat} {ov : Nat → Nat} {q : Cel} (ho : okCel q) {v t : Nat} (hv : v < g.1) (hl : lvs g m ov v = true) (hf : ft g (rts g m ov) q v t = true) : ∃ k sy li ta, Mt g m ov v (pn g (rts g m ov) q v t) k sy li ta := by
  obtain ⟨o1, o2, o3, o4, o5⟩ := ho
  generalize htb : tbt (nns q.2.2.2 q.2.2.1) (nI t) = tb
  have hf' : (mrun g (rts g m ov) q.2.2.2 tb q.2.2.1 0 ([v], fun _ => -4, 0)).1 = true := by rw [← htb]; exact hf
  obtain ⟨a, qe, b, c⟩ := mst_run (top := v) q.2.2.1 0 ([v], fun _ => -4, 0) rfl hf'
  rw [Nat.zero_add] at b
  have hz := fun i qi hik h => mst_z (tb := tb) (rt := rts g m ov) hw hv hl (k := q.2.2.1) (fun j hj => (o3 j hj).1) i qi hik h
  have hli0 : lie g (rts g m ov) q.2.2.2 tb v 0 = v := rfl
  refine ⟨q.2.2.1, q.2.2.2, lie g (rts g m ov) q.2.2.2 tb v, fun o => tb (nns q.2.2.2 o), hli0, o5, fun i h0 hi => ?_, fun p hp => ?_⟩
  · obtain ⟨qi, hqi⟩ := a i (by omega)
    rw [Nat.zero_add] at hqi
    obtain ⟨-, ⟨Z, z1, z2, z3⟩, -⟩ := hz i qi (by omega) hqi
    have hne := (o3 i hi).2
    cases Z with
    | nil => exact absurd z1.symm hne
    | cons z Z' =>
      have hpe : pend q.2.2.2 i = z.1 :: Z'.map Prod.fst := z1.symm
      have hli : lie g (rts g m ov) q.2.2.2 tb v i = z.2 := by
        unfold lie
        rw [hqi]
        obtain ⟨L, P, aa⟩ := qi
        simp only at z2
        rw [← z2]
        rfl
      have hE := z3 z List.mem_cons_self
      obtain ⟨ee, x⟩ := z
      cases ee with
      | none =>
        have := (pend_ok q.2.2.2 i).2.2 0 h0 none [] rfl
        rw [hpe] at this
        exact absurd List.mem_cons_self this
      | some ob =>
        obtain ⟨o, bb⟩ := ob
        obtain ⟨e1, e2, e3, e4, e5, e6, e7, e8⟩ := hE
        have hoi := (pend_ok q.2.2.2 i).2.1 o bb (by rw [hpe]; exact List.mem_cons_self)
        have hli : lie g (rts g m ov) q.2.2.2 tb v i = x := hli
        rw [← hli] at e1 e2 e3 e8
        have hfo : (g.2 (lie g (rts g m ov) q.2.2.2 tb v o)).1 ≠ 0 := by
          rcases e8 with ⟨-, h, -⟩ | ⟨-, -, h, -⟩ <;> omega
        refine ⟨o, bb, Z'.map Prod.fst, if q.2.2.2 o = 7 then Bool.xor bb (tb (nns q.2.2.2 o)) else false, hpe, hoi, e3, e4, e5, e1, e6, ?_, ?_, ?_⟩
        · rcases e7 with h | h
          · exact Or.inl h
          · exact Or.inr ⟨e5, h, hfo⟩
        · rcases e8 with ⟨h7, hf2, hx⟩ | ⟨h7, hb, hf1, hx⟩
          · rw [if_pos h7]
            unfold ptA at hx
            cases hs : Bool.xor bb (tb (nns q.2.2.2 o)) with
            | true => rw [hs] at hx; exact Or.inr ⟨hf2, rfl, hx.symm⟩
            | false => rw [hs] at hx; exact Or.inl ⟨hfo, rfl, hx.symm⟩
          · rw [if_neg h7]
            exact Or.inl ⟨hfo, rfl, hx.symm⟩
        · rcases e8 with ⟨h7, hf2, hx⟩ | ⟨h7, hb, hf1, hx⟩
          · exact Or.inl ⟨h7, by rw [if_pos h7]⟩
          · exact Or.inr ⟨h7, hb⟩
  · obtain ⟨-, -, hpp⟩ := hz q.2.2.1 qe (Nat.le_refl _) b
    have hP : pn g (rts g m ov) q v t = qe.2.1 := by
      unfold pn mat
      rw [htb]
      exact c
    rw [hP]
    rcases hpp p with h | ⟨j, h1, h2, h3⟩
    · exact Or.inl h
    · refine Or.inr ⟨j, ?_, h1, h2, h3⟩
      by_cases e : j = 0
      · subst e; omega
      · omega
/-- in one match an inside vertex lies once -/
theorem Mt_1 {g : Gr} (hw : wfG g) {m : Nat} {ov : Nat → Nat} {v : Nat} {P : Pns} {k : Nat} {sy li : Nat → Nat} {ta : Nat → Bool} (h : Mt g m ov v P k sy li ta) : ∀ (n i j : Nat), i < n → 0 < i → i < k → 0 < j → j < k → li i = li j → insd g m ov (li i) → i = j
  | 0, i, j, hn, _, _, _, _, _, _ => absurd hn (by omega)
  | n + 1, i, j, hn, hi0, hi, hj0, hj, he, hx => by
    obtain ⟨o, b, r, sd, a1, a2, a3, a4, a5, a6, a7, a8, a9, a10⟩ := h.2.2.1 i hi0 hi
    obtain ⟨o', b', r', sd', c1, c2, c3, c4, c5, c6, c7, c8, c9, c10⟩ := h.2.2.1 j hj0 hj
    rw [← he] at c9 c3
    obtain ⟨p1, p2⟩ := par_uniq hw hx a9 c9 a4 c4 a5 c5
    have low : ∀ l, 0 < l → l < k → li l < v := by
      intro l
      induction l using Nat.strongRecOn with
      | ind l ihl =>
        intro h0 hk
        obtain ⟨o1, _, _, _, _, q2, q3, _⟩ := h.2.2.1 l h0 hk
        by_cases z : o1 = 0
        · rw [z, h.1] at q3; exact q3
        · have := ihl o1 q2 (by omega) (by omega)
          omega
    have hoo : o = o' := by
      by_cases z : o = 0
      · by_cases z' : o' = 0
        · omega
        · have := low o' (by omega) (by omega)
          rw [← p1, z, h.1] at this
          omega
      · by_cases z' : o' = 0
        · have := low o (by omega) (by omega)
          rw [p1, z', h.1] at this
          omega
        · have hio : insd g m ov (li o) := by
            rcases a8 with q | q
            · exact absurd q z
            · exact q
          exact Mt_1 hw h n o o' (by omega) (by omega) (by omega) (by omega) (by omega) p1 hio
    subst hoo
    have hbb : b = b' := by
      rcases a10 with ⟨s7, s8⟩ | ⟨s7, s8⟩
      · rcases c10 with ⟨t7, t8⟩ | ⟨t7, t8⟩
        · rw [s8, t8] at p2
          cases b <;> cases b' <;> cases ta o <;> simp_all
        · exact absurd s7 t7
      · rcases c10 with ⟨t7, t8⟩ | ⟨t7, t8⟩
        · exact absurd t7 s7
        · rw [s8, t8]
    subst hbb
    rcases Nat.lt_trichotomy i j with z | z | z
    · have := (pend_ok sy j).2.2 i z _ _ a1
      rw [c1] at this
      exact absurd List.mem_cons_self this
    · exact z
    · have := (pend_ok sy i).2.2 j z _ _ c1
      rw [a1] at this
      exact absurd List.mem_cons_self this
/-- two matches that share an inside vertex: they are one, or one lies inside the other's -/
theorem Mt_2 {g : Gr} (hw : wfG g) {m : Nat} {ov : Nat → Nat} {v w : Nat} {P P' : Pns} {k k' : Nat} {sy li sy' li' : Nat → Nat} {ta ta' : Nat → Bool} (h : Mt g m ov v P k sy li ta) (h' : Mt g m ov w P' k' sy' li' ta') : ∀ (n i j : Nat), i < n → 0 < i → i < k → 0 < j → j < k' → li i = li' j → insd g m ov (li i) → v = w ∨ (li i < w ∧ insd g m ov w ∧ ∃ l, 0 < l ∧ l < k ∧ 6 ≤ sy l ∧ li l = w) ∨ (li i < v ∧ insd g m ov v ∧ ∃ l, 0 < l ∧ l < k' ∧ 6 ≤ sy' l ∧ li' l = v)
  | 0, i, j, hn, _, _, _, _, _, _ => absurd hn (by omega)
  | n + 1, i, j, hn, hi0, hi, hj0, hj, he, hx => by
    obtain ⟨o, b, r, sd, a1, a2, a3, a4, a5, a6, a7, a8, a9, a10⟩ := h.2.2.1 i hi0 hi
    obtain ⟨o', b', r', sd', c1, c2, c3, c4, c5, c6, c7, c8, c9, c10⟩ := h'.2.2.1 j hj0 hj
    rw [← he] at c9 c3
    obtain ⟨p1, p2⟩ := par_uniq hw hx a9 c9 a4 c4 a5 c5
    by_cases z : o = 0
    · by_cases z' : o' = 0
      · left
        rw [z, z', h.1, h'.1] at p1
        exact p1
      · right; right
        rw [z, h.1] at p1 a3
        refine ⟨a3, ?_, o', by omega, by omega, c7, p1.symm⟩
        rcases c8 with q | q
        · exact absurd q z'
        · rw [← p1] at q; exact q
    · have hio : insd g m ov (li o) := by
        rcases a8 with q | q
        · exact absurd q z
        · exact q
      by_cases z' : o' = 0
      · right; left
        rw [z', h'.1] at p1 c3
        exact ⟨c3, by rw [← p1]; exact hio, o, by omega, by omega, a7, p1⟩
      · rcases Mt_2 hw h h' n o o' (by omega) (by omega) (by omega) (by omega) (by omega) p1 hio with q | ⟨q1, q2, q3⟩ | ⟨q1, q2, q3⟩
        · exact Or.inl q
        · exact Or.inr (Or.inl ⟨by omega, q2, q3⟩)
        · exact Or.inr (Or.inr ⟨by omega, q2, q3⟩)
