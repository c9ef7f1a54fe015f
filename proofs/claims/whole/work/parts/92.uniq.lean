/-! Where a match lies: each inside vertex has one user, so the chosen matches do not overlap -/
def mst (g : Gr) (rt : Nat → Bool) (sy : Nat → Nat) (tb : Nat → Bool) (top : Nat) : Nat → Option (List Nat × Pns × Nat)
  | 0 => some ([top], fun _ => -4, 0)
  | i + 1 => match mst g rt sy tb top i with
    | none => none
    | some q => mstep g rt tb (sy i) i q
theorem mst_run {g : Gr} {rt : Nat → Bool} {sy : Nat → Nat} {tb : Nat → Bool} {top : Nat} : ∀ (f i : Nat) (q : List Nat × Pns × Nat), mst g rt sy tb top i = some q → (mrun g rt sy tb f i q).1 = true → (∀ j, j ≤ f → ∃ q', mst g rt sy tb top (i + j) = some q') ∧ ∃ q', mst g rt sy tb top (i + f) = some q' ∧ (mrun g rt sy tb f i q).2.2 = q'.2.1
  | 0, i, q, h, _ => ⟨fun j hj => ⟨q, by rw [show i + j = i from by omega]; exact h⟩, q, h, rfl⟩
  | f + 1, i, q, h, hr => by
    rw [mrun] at hr
    rw [mrun]
    cases hm : mstep g rt tb (sy i) i q with
    | none => rw [hm] at hr; cases hr
    | some q' =>
      rw [hm] at hr
      have hn : mst g rt sy tb top (i + 1) = some q' := by rw [mst, h]; exact hm
      obtain ⟨a, q2, b, c⟩ := mst_run f (i + 1) q' hn hr
      refine ⟨fun j hj => ?_, q2, by rw [show i + (f + 1) = i + 1 + f from by omega]; exact b, c⟩
      by_cases e : j = 0
      · exact ⟨q, by rw [e]; exact h⟩
      · obtain ⟨q3, h3⟩ := a (j - 1) (by omega)
        exact ⟨q3, by rw [show i + j = i + 1 + (j - 1) from by omega]; exact h3⟩
def lie (g : Gr) (rt : Nat → Bool) (sy : Nat → Nat) (tb : Nat → Bool) (top i : Nat) : Nat := match mst g rt sy tb top i with
  | some (v :: _, _) => v
  | _ => 0
/-- what is said of one that waits: whose part it is -/
def EZ (g : Gr) (lv rt : Nat → Bool) (sy : Nat → Nat) (li : Nat → Nat) (tb : Nat → Bool) (top : Nat) (e : Option (Nat × Bool)) (x : Nat) : Prop := lv x = true ∧ x < g.1 ∧ match e with
  | none => x = top
  | some (o, b) => x < li o ∧ li o < g.1 ∧ lv (li o) = true ∧ 6 ≤ sy o ∧ (o = 0 ∨ rt (li o) = false) ∧ ((sy o = 7 ∧ (g.2 (li o)).1 = 2 ∧ x = ptA g (Bool.xor b (tb (nns sy o))) (li o)) ∨ (sy o ≠ 7 ∧ b = false ∧ (g.2 (li o)).1 = 1 ∧ x = (g.2 (li o)).2.1))
theorem mst_z {g : Gr} (hw : wfG g) {m : Nat} {ov : Nat → Nat} {rt : Nat → Bool} {sy : Nat → Nat} {tb : Nat → Bool} {top : Nat} (ht : top < g.1) (hl : lvs g m ov top = true) {k : Nat} (hs : ∀ j, j < k → sy j ≤ 7) : ∀ (i : Nat) (q : List Nat × Pns × Nat), i ≤ k → mst g rt sy tb top i = some q → q.2.2 = nns sy i ∧ (∃ Z : List (Option (Nat × Bool) × Nat), Z.map Prod.fst = pend sy i ∧ Z.map Prod.snd = q.1 ∧ ∀ z ∈ Z, EZ g (lvs g m ov) rt sy (lie g rt sy tb top) tb top z.1 z.2) ∧ ∀ p, q.2.1 p = -4 ∨ ∃ j, j < i ∧ sy j = p ∧ q.2.1 p = nI (lie g rt sy tb top j)
  | 0, q, _, h => by
    cases h
    refine ⟨rfl, ⟨[(none, top)], rfl, rfl, fun z hz => ?_⟩, fun p => Or.inl rfl⟩
    have : z = (none, top) := by simpa using hz
    subst this
    exact ⟨hl, ht, rfl⟩
  | i + 1, q', hik, h => by
    rw [mst] at h
    cases hq : mst g rt sy tb top i with
    | none => rw [hq] at h; cases h
    | some q =>
      rw [hq] at h
      have h : mstep g rt tb (sy i) i q = some q' := h
      obtain ⟨hn, ⟨Z, z1, z2, z3⟩, hp⟩ := mst_z hw ht hl hs i q (by omega) hq
      have hnn : q'.2.2 = nns sy (i + 1) := by
        rw [(mstep_some (tb' := tb) h).1, hn]
        by_cases h7 : sy i = 7
        · rw [if_pos h7, nns_7 h7]
        · rw [if_neg h7, nns_n7 h7]; rfl
      obtain ⟨v, r, e, h⟩ := mstep_inv h
      have hli : lie g rt sy tb top i = v := by
        unfold lie
        rw [hq]
        obtain ⟨L, P, a⟩ := q
        simp only at e
        rw [e]
      obtain ⟨ee, Z', rfl⟩ : ∃ ee Z', Z = (ee, v) :: Z' := by
        cases Z with
        | nil => rw [e] at z2; cases z2
        | cons z Z' =>
          rw [e] at z2
          have := (List.cons.inj z2).1
          exact ⟨z.1, Z', by rw [← this]⟩
      have z2' : Z'.map Prod.snd = r := by rw [e] at z2; exact (List.cons.inj z2).2
      have hpe : pend sy i = ee :: Z'.map Prod.fst := z1.symm
      have z3' : ∀ z ∈ Z', EZ g (lvs g m ov) rt sy (lie g rt sy tb top) tb top z.1 z.2 := fun z hz => z3 z (List.mem_cons_of_mem _ hz)
      obtain ⟨l1, l2, -⟩ := z3 (ee, v) List.mem_cons_self
      have l1 : lvs g m ov v = true := l1
      have l2 : v < g.1 := l2
      have hp' : ∀ p, q.2.1 p = -4 ∨ ∃ j, j < i + 1 ∧ sy j = p ∧ q.2.1 p = nI (lie g rt sy tb top j) := fun p => by
        rcases hp p with h | ⟨j, a, b, c⟩
        · exact Or.inl h
        · exact Or.inr ⟨j, by omega, b, c⟩
      rcases h with ⟨h6, hc, rfl⟩ | ⟨h7, hf, hr, rfl⟩ | ⟨h6, h7, hf, hr, rfl⟩
      · refine ⟨hnn, ⟨Z', by rw [pend, hpe]; simp only; rw [if_neg (by omega), if_neg (by omega)], z2', z3'⟩, fun p => ?_⟩
        show upd q.2.1 (sy i) (nI v) p = -4 ∨ _
        unfold upd
        by_cases y : p = sy i
        · rw [if_pos y]
          exact Or.inr ⟨i, by omega, y.symm, by
            show (if p = sy i then nI v else q.2.1 p) = _
            rw [if_pos y, hli]⟩
        · rw [if_neg y]
          rcases hp' p with h | ⟨j, a, b, c⟩
          · exact Or.inl h
          · exact Or.inr ⟨j, a, b, by
              show (if p = sy i then nI v else q.2.1 p) = _
              rw [if_neg y]; exact c⟩
      · have o := ptA_ok hw (m := m) (ov := ov) l2 l1 hf
        refine ⟨hnn, ⟨(some (i, false), ptA g (tb q.2.2) v) :: (some (i, true), ptA g (!(tb q.2.2)) v) :: Z', by rw [pend, hpe]; simp only; rw [if_pos h7]; rfl, by show _ :: _ :: Z'.map Prod.snd = _; rw [z2'], fun z hz => ?_⟩, hp'⟩
        rcases List.mem_cons.mp hz with rfl | hz
        · refine ⟨(o _).2, by have := (o (tb q.2.2)).1; show ptA g (tb q.2.2) v < g.1; omega, ?_⟩
          show ptA g (tb q.2.2) v < lie g rt sy tb top i ∧ _
          rw [hli]
          refine ⟨(o _).1, l2, l1, by omega, hr, Or.inl ⟨h7, hf, ?_⟩⟩
          rw [hn]; simp
        · rcases List.mem_cons.mp hz with rfl | hz
          · refine ⟨(o _).2, by have := (o (!(tb q.2.2))).1; show ptA g (!(tb q.2.2)) v < g.1; omega, ?_⟩
            show ptA g (!(tb q.2.2)) v < lie g rt sy tb top i ∧ _
            rw [hli]
            refine ⟨(o _).1, l2, l1, by omega, hr, Or.inl ⟨h7, hf, ?_⟩⟩
            rw [hn]; simp
          · exact z3' z hz
      · have w2 := (hw v l2).2.1 (by omega)
        refine ⟨hnn, ⟨(some (i, false), (g.2 v).2.1) :: Z', by rw [pend, hpe]; simp only; rw [if_neg h7, if_pos (show sy i = 6 by have := hs i (by omega); omega)]; rfl, by show _ :: Z'.map Prod.snd = _; rw [z2'], fun z hz => ?_⟩, hp'⟩
        rcases List.mem_cons.mp hz with rfl | hz
        · refine ⟨lvs_1 hw l2 l1 (by omega), by show (g.2 v).2.1 < g.1; omega, ?_⟩
          show (g.2 v).2.1 < lie g rt sy tb top i ∧ _
          rw [hli]
          exact ⟨w2, l2, l1, h6, hr, Or.inr ⟨h7, rfl, hf, rfl⟩⟩
        · exact z3' z hz
