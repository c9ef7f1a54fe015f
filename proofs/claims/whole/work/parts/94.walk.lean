/-! The walk over the chosen matches as a mathematical value -/
theorem no_int {g : Gr} (hw : wfG g) (hg : g.1 ≤ 160) {m : Nat} {ov : Nat → Nat} {D : Nat → Prop} {P : Nat → Pns} {K : Nat → Nat} {SY LI : Nat → Nat → Nat} {TA : Nat → Nat → Bool} (hM : ∀ v, D v → Mt g m ov v (P v) (K v) (SY v) (LI v) (TA v)) (hD : ∀ x, D x → x < g.1 ∧ (rts g m ov x = true ∨ ∃ w p, D w ∧ p < 6 ∧ P w p = nI x)) : ∀ (n x w i : Nat), g.1 - x < n → D x → D w → insd g m ov x → 0 < i → i < K w → 6 ≤ SY w i → LI w i ≠ x
  | 0, x, w, i, hn, _, _, _, _, _, _ => absurd hn (by omega)
  | n + 1, x, w, i, hn, hx, hwD, hin, hi0, hi, hs => by
    intro he
    obtain ⟨x1, x2⟩ := hD x hx
    rcases x2 with x2 | ⟨v2, p, d2, hp, hpx⟩
    · have := hin.2.1
      rw [x2] at this
      cases this
    · rcases (hM v2 d2).2.2.2 p hp with h4 | ⟨j, j0, jk, js, jl⟩
      · rw [h4] at hpx
        exact absurd hpx.symm (nI_m4 (by omega))
      · obtain ⟨o, b, r, sd, -, -, q3, q4, -⟩ := (hM v2 d2).2.2.1 j j0 jk
        have hjx : LI v2 j = x := (nI_eq (by omega) (by omega)).mp (jl.symm.trans hpx)
        have hin' : insd g m ov (LI w i) := by rw [he]; exact hin
        rcases Mt_2 hw (hM w hwD) (hM v2 d2) (i + 1) i j (by omega) hi0 hi j0 jk (by rw [he, hjx]) hin' with q | ⟨c1, c2, l, l0, lk, ls, le⟩ | ⟨c1, c2, l, l0, lk, ls, le⟩
        · subst q
          have := Mt_1 hw (hM w hwD) (i + 1) i j (by omega) hi0 hi j0 jk (by rw [he, hjx]) hin'
          rw [this, js] at hs
          omega
        · exact no_int hw hg hM hD n v2 w l (by omega) d2 hwD c2 l0 lk ls le
        · exact no_int hw hg hM hD n w v2 l (by omega) hwD d2 c2 l0 lk ls le
/-- an inside vertex is the PIN of one match, and one PIN of it -/
theorem pin_uniq {g : Gr} (hw : wfG g) (hg : g.1 ≤ 160) {m : Nat} {ov : Nat → Nat} {D : Nat → Prop} {P : Nat → Pns} {K : Nat → Nat} {SY LI : Nat → Nat → Nat} {TA : Nat → Nat → Bool} (hM : ∀ v, D v → Mt g m ov v (P v) (K v) (SY v) (LI v) (TA v)) (hD : ∀ x, D x → x < g.1 ∧ (rts g m ov x = true ∨ ∃ w p, D w ∧ p < 6 ∧ P w p = nI x)) {v v' u p p' : Nat} (hv : D v) (hv' : D v') (hu : insd g m ov u) (ug : u < g.1) (hp : p < 6) (hp' : p' < 6) (e : P v p = nI u) (e' : P v' p' = nI u) : v = v' ∧ p = p' := by
  rcases (hM v hv).2.2.2 p hp with h4 | ⟨i, i0, ik, is, il⟩
  · rw [h4] at e; exact absurd e.symm (nI_m4 (by omega))
  · rcases (hM v' hv').2.2.2 p' hp' with h4 | ⟨j, j0, jk, js, jl⟩
    · rw [h4] at e'; exact absurd e'.symm (nI_m4 (by omega))
    · obtain ⟨o, b, r, sd, -, -, q3, q4, -⟩ := (hM v hv).2.2.1 i i0 ik
      obtain ⟨o', b', r', sd', -, -, q3', q4', -⟩ := (hM v' hv').2.2.1 j j0 jk
      have hi : LI v i = u := (nI_eq (by omega) (by omega)).mp (il.symm.trans e)
      have hj : LI v' j = u := (nI_eq (by omega) (by omega)).mp (jl.symm.trans e')
      have hin : insd g m ov (LI v i) := by rw [hi]; exact hu
      rcases Mt_2 hw (hM v hv) (hM v' hv') (i + 1) i j (by omega) i0 ik j0 jk (by rw [hi, hj]) hin with q | ⟨c1, c2, l, l0, lk, ls, le⟩ | ⟨c1, c2, l, l0, lk, ls, le⟩
      · subst q
        have := Mt_1 hw (hM v hv) (i + 1) i j (by omega) i0 ik j0 jk (by rw [hi, hj]) hin
        subst this
        exact ⟨rfl, by omega⟩
      · exact absurd le (no_int hw hg hM hD _ v' v l (Nat.lt_succ_self _) hv' hv c2 l0 lk ls)
      · exact absurd le (no_int hw hg hM hD _ v v' l (Nat.lt_succ_self _) hv hv' c2 l0 lk ls)
/-- the PINs of v in a cover -/
def Cq.P (Q : Cq) (v : Nat) : Pns := (Q.bs Q.g.1 v).2.2.2
def Cq.inP (Q : Cq) (x : Int32) : Bool := !(x == -4) && (!((Q.g.2 x.toNatClampNeg).1 == 0) && !(Q.rt x.toNatClampNeg))
/-- what waits behind v: of the last n PINs those that are inside -/
def Cq.chs (Q : Cq) (v : Nat) : Nat → List Nat
  | 0 => []
  | n + 1 => if Q.inP (Q.P v (5 - n)) then (Q.P v (5 - n)).toNatClampNeg :: Q.chs v n else Q.chs v n
def Cq.ch (Q : Cq) (v : Nat) : List Nat := Q.chs v 6
def Cq.dN (Q : Cq) : Nat → Nat → Prop
  | 0, x => x < Q.g.1 ∧ Q.rt x = true
  | n + 1, x => ∃ w, Q.dN n w ∧ x ∈ Q.ch w
def Cq.D (Q : Cq) (x : Nat) : Prop := ∃ n, Q.dN n x
/-- a question of a state: well formed, and no root without a match -/
def Cq.ok (Q : Cq) : Prop := wfG Q.g ∧ Q.g.1 ≤ 160 ∧ WfL Q.c Q.lib ∧ gfind Q.isBad Q.g.1 = none
theorem gfind_no {p : Nat → Bool} : ∀ {n : Nat}, gfind p n = none → ∀ v, v < n → p v = false
  | 0, _, v, hv => absurd hv (by omega)
  | n + 1, h, v, hv => by
    rw [gfind] at h
    cases e : gfind p n with
    | some u => rw [e] at h; cases h
    | none =>
      rw [e] at h
      by_cases z : v = n
      · subst z
        cases q : p v with
        | false => rfl
        | true => rw [q] at h; cases h
      · exact gfind_no e v (by omega)
theorem Cq.chs_m {Q : Cq} {v u : Nat} : ∀ {n : Nat}, n ≤ 6 → u ∈ Q.chs v n → ∃ p, 6 - n ≤ p ∧ p < 6 ∧ Q.inP (Q.P v p) = true ∧ u = (Q.P v p).toNatClampNeg
  | 0, _, h => by simp [Cq.chs] at h
  | n + 1, hn, h => by
    rw [Cq.chs] at h
    by_cases z : Q.inP (Q.P v (5 - n)) = true
    · rw [if_pos z] at h
      rcases List.mem_cons.mp h with h | h
      · exact ⟨5 - n, by omega, by omega, z, h⟩
      · obtain ⟨p, a, b, c⟩ := Cq.chs_m (n := n) (by omega) h
        exact ⟨p, by omega, b, c⟩
    · rw [if_neg z] at h
      obtain ⟨p, a, b, c⟩ := Cq.chs_m (n := n) (by omega) h
      exact ⟨p, by omega, b, c⟩
theorem Cq.chs_i {Q : Cq} {v p : Nat} (h : Q.inP (Q.P v p) = true) : ∀ {n : Nat}, n ≤ 6 → 6 - n ≤ p → p < 6 → (Q.P v p).toNatClampNeg ∈ Q.chs v n
  | 0, _, h1, h2 => absurd h1 (by omega)
  | n + 1, hn, h1, h2 => by
    rw [Cq.chs]
    by_cases e : p = 5 - n
    · subst e
      rw [if_pos h]
      exact List.mem_cons_self
    · have := Cq.chs_i h (n := n) (by omega) (by omega) h2
      by_cases z : Q.inP (Q.P v (5 - n)) = true
      · rw [if_pos z]; exact List.mem_cons_of_mem _ this
      · rw [if_neg z]; exact this
/-- what is known of a vertex with a match -/
theorem Cq.has_m {Q : Cq} (h : Q.ok) {v : Nat} (hv : v < Q.g.1) (h4 : (Q.bs Q.g.1 v).1 ≠ -4) : ∃ d t, d < Q.c ∧ Q.th d = true ∧ ft Q.g Q.rt (Q.lib d) v t = true ∧ (Q.bs Q.g.1 v).1 = nI d ∧ Q.P v = pn Q.g Q.rt (Q.lib d) v t ∧ Q.lv v = true ∧ (Q.g.2 v).1 ≠ 0 ∧ ∀ p, p < 6 → Q.P v p = -4 ∨ ∃ u, u < v ∧ Q.lv u = true ∧ Q.P v p = nI u ∧ ((Q.g.2 u).1 = 0 ∨ (Q.bs Q.g.1 u).1 ≠ -4) := by
  obtain ⟨hw, hg, hL, hb⟩ := h
  have e := Q.bs_lt hv
  rcases Q.b1_cho v with h0 | ⟨l1, l2, d, t, c1, c2, c3, c4, c5, c6, c7, c8⟩
  · rw [e, h0] at h4
    exact absurd rfl h4
  · rw [← e] at c6 c7 c8
    refine ⟨d, t, c1, c2, c5, c6, c7, l1, l2, fun p hp => ?_⟩
    have c7' : Q.P v = pn Q.g Q.rt (Q.lib d) v t := c7
    rcases pn_ok hw (m := Q.m) (ov := Q.ov) (rt := Q.rt) (hL.2 d c1) hv l1 t p with h | ⟨u, hu, hl, hq⟩
    · exact Or.inl (by rw [c7']; exact h)
    · refine Or.inr ⟨u, hu, hl, by rw [c7']; exact hq, ?_⟩
      have hq' : (Q.bs Q.g.1 v).2.2.2 p = nI u := by rw [c7]; exact hq
      rcases Cq.can_at c8 hp with z | z
      · rw [hq'] at z
        exact absurd z (nI_m4 (by omega))
      · rw [hq', nI_clamp (by omega)] at z
        unfold Cq.hv at z
        rw [Q.bs_eq (v := v) (w := Q.g.1) hu (by omega)] at z
        by_cases y : (Q.g.2 u).1 = 0
        · exact Or.inl y
        · right
          intro y2
          rw [y2] at z
          simp [y] at z
theorem Cq.root_m {Q : Cq} (h : Q.ok) {v : Nat} (hv : v < Q.g.1) (hr : Q.rt v = true) : (Q.bs Q.g.1 v).1 ≠ -4 := by
  have := gfind_no h.2.2.2 v hv
  unfold Cq.isBad at this
  rw [hr, Bool.true_and, ← Q.bs_lt hv] at this
  intro e
  rw [e] at this
  simp at this
/-- an inside PIN -/
theorem Cq.in_p {Q : Cq} (h : Q.ok) {v p : Nat} (hv : v < Q.g.1) (h4 : (Q.bs Q.g.1 v).1 ≠ -4) (hp : p < 6) (hi : Q.inP (Q.P v p) = true) : ∃ u, u < v ∧ Q.P v p = nI u ∧ (Q.P v p).toNatClampNeg = u ∧ insd Q.g Q.m Q.ov u ∧ (Q.bs Q.g.1 u).1 ≠ -4 := by
  obtain ⟨d, t, c1, c2, c3, c4, c5, c6, c7, c8⟩ := Q.has_m h hv h4
  have hg := h.2.1
  unfold Cq.inP at hi
  have h1 := Bool.and_eq_true_iff.mp hi
  have h2 := Bool.and_eq_true_iff.mp h1.2
  rcases c8 p hp with z | ⟨u, u1, u2, u3, u4⟩
  · rw [z] at h1; exact absurd h1.1 (by decide)
  · have hc : (Q.P v p).toNatClampNeg = u := by rw [u3, nI_clamp (by omega)]
    rw [hc] at h2
    have f0 : (Q.g.2 u).1 ≠ 0 := by simpa using h2.1
    refine ⟨u, u1, u3, hc, ⟨u2, (by simpa using h2.2 : Q.rt u = false), f0⟩, ?_⟩
    rcases u4 with q | q
    · exact absurd q f0
    · exact q
theorem Cq.D_m {Q : Cq} (h : Q.ok) : ∀ (n x : Nat), Q.dN n x → x < Q.g.1 ∧ (Q.bs Q.g.1 x).1 ≠ -4 ∧ (Q.rt x = true ∨ (insd Q.g Q.m Q.ov x ∧ ∃ w p, Q.D w ∧ p < 6 ∧ Q.P w p = nI x))
  | 0, x, hx => ⟨hx.1, Q.root_m h hx.1 hx.2, Or.inl hx.2⟩
  | n + 1, x, hx => by
    obtain ⟨w, w1, w2⟩ := hx
    obtain ⟨a, b, -⟩ := Cq.D_m h n w w1
    obtain ⟨p, -, p2, p3, p4⟩ := Cq.chs_m (Nat.le_refl 6) w2
    obtain ⟨u, u1, u2, u3, u4, u5⟩ := Q.in_p h a b p2 p3
    rw [u3] at p4
    subst p4
    exact ⟨by omega, u5, Or.inr ⟨u4, w, p, ⟨n, w1⟩, p2, u2⟩⟩
theorem Cq.D_ch {Q : Cq} {w x : Nat} (hw : Q.D w) (hx : x ∈ Q.ch w) : Q.D x := by
  obtain ⟨n, hn⟩ := hw
  exact ⟨n + 1, w, hn, hx⟩
theorem Cq.D_uniq {Q : Cq} (h : Q.ok) {v v' u p p' : Nat} (hv : Q.D v) (hv' : Q.D v') (hu : insd Q.g Q.m Q.ov u) (ug : u < Q.g.1) (hp : p < 6) (hp' : p' < 6) (e : Q.P v p = nI u) (e' : Q.P v' p' = nI u) : v = v' ∧ p = p' := by
  have ex : ∀ v, ∃ X : Nat × (Nat → Nat) × (Nat → Nat) × (Nat → Bool), Q.D v → Mt Q.g Q.m Q.ov v (Q.P v) X.1 X.2.1 X.2.2.1 X.2.2.2 := fun v => by
    by_cases hv : Q.D v
    · obtain ⟨n, hn⟩ := hv
      obtain ⟨a, b, -⟩ := Q.D_m h n v hn
      obtain ⟨d, t, c1, c2, c3, c4, c5, c6, c7, c8⟩ := Q.has_m h a b
      obtain ⟨k, sy, li, ta, hM⟩ := ft_Mt h.1 (h.2.2.1.2 d c1) a c6 c3
      exact ⟨(k, sy, li, ta), fun _ => by rw [c5]; exact hM⟩
    · exact ⟨(0, fun _ => 0, fun _ => 0, fun _ => false), fun q => absurd q hv⟩
  have hM := fun v => Classical.choose_spec (ex v)
  exact pin_uniq h.1 h.2.1 (K := fun v => (Classical.choose (ex v)).1) (SY := fun v => (Classical.choose (ex v)).2.1) (LI := fun v => (Classical.choose (ex v)).2.2.1) (TA := fun v => (Classical.choose (ex v)).2.2.2) hM (fun x ⟨n, hn⟩ => by
    obtain ⟨a, b, c⟩ := Q.D_m h n x hn
    refine ⟨a, ?_⟩
    rcases c with c | ⟨-, c⟩
    · exact Or.inl c
    · exact Or.inr c) hv hv' hu ug hp hp' e e'
