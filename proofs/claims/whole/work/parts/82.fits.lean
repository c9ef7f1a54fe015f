/-! fits() of the reference -/
theorem pend_pop {sy : Nat → Nat} {k : Nat} (hk : pend sy k = []) {q : Option (Nat × Bool)} : ∀ (d i : Nat), i + d = k → q ∈ pend sy i → ∃ i' r, i ≤ i' ∧ i' < k ∧ pend sy i' = q :: r
  | 0, i, h, hm => by
    have e : i = k := by omega
    subst e
    rw [hk] at hm
    simp at hm
  | d + 1, i, h, hm => by
    cases hp : pend sy i with
    | nil => rw [hp] at hm; simp at hm
    | cons e r =>
      rw [hp] at hm
      by_cases z : q = e
      · subst z
        exact ⟨i, r, Nat.le_refl i, by omega, hp⟩
      · have hm : q ∈ r := by
          rcases List.mem_cons.mp hm with h | h
          · exact absurd h z
          · exact h
        have hm2 : q ∈ pend sy (i + 1) := by
          rw [pend, hp]
          simp only
          split
          · simp [hm]
          · split
            · simp [hm]
            · exact hm
        obtain ⟨i', r', a, b, c⟩ := pend_pop hk d (i + 1) (by omega) hm2
        exact ⟨i', r', by omega, b, c⟩
def MrE (g : Gr) (rt : Nat → Bool) (c k : Nat) (sy : Nat → Nat) (T : St) : Prop := EG g (T 8 0) (T 9 0) (T 10 0) ∧ (∀ v, v < g.1 → T 14 0 v = b01 (rt v)) ∧ T 19 0 c = nI k ∧ ML c k sy T
def exF : List (Nat × Nat) := [(28, 0), (29, 0)]
theorem MrE.same {g : Gr} {rt : Nat → Bool} {c k : Nat} {sy : Nat → Nat} {T T' : St} (h : MrE g rt c k sy T) (s : Same exF T T') : MrE g rt c k sy T' := by
  obtain ⟨h1, h2, h3, h4⟩ := h
  refine ⟨?_, ?_, ?_, h4.cg (s.keep (by decide))⟩
  · rw [s 8 0 (by decide), s 9 0 (by decide), s 10 0 (by decide)]; exact h1
  · rw [s 14 0 (by decide)]; exact h2
  · rw [s 19 0 (by decide)]; exact h3
/-- where what waits comes to lie -/
def LZ (sy : Nat → Nat) (k : Nat) (Z : List (Option (Nat × Bool) × Nat)) (R : Nat → Int32) : Prop := ∀ z ∈ Z, ∀ i' r, i' < k → pend sy i' = z.1 :: r → R i' = nI z.2
/-- a part is laid where its place is -/
theorem LZ.lay {sy : Nat → Nat} {k c : Nat} {Z : List (Option (Nat × Bool) × Nat)} {R : Nat → Int32} {T : St} (hT : TrM c sy k T) (hk : k ≤ 12) (hke : pend sy k = []) {o x : Nat} {b : Bool} (ho : some (o, b) ∈ pend sy (o + 1)) (hok : o < k) (h : LZ sy k Z R) (hn : ∀ z ∈ Z, z.1 ≠ some (o, b)) : ∃ i', i' < k ∧ T (if b then 25 else 24) 0 (12 * c + o) = nI i' ∧ LZ sy k ((some (o, b), x) :: Z) (fun j => if j = i' then nI x else R j) := by
  obtain ⟨i', r, a1, a2, a3⟩ := pend_pop hke (k - (o + 1)) (o + 1) (by omega) ho
  refine ⟨i', a2, hT i' a2 o b r a3, ?_⟩
  intro z hz j r' hj hp
  rcases List.mem_cons.mp hz with rfl | hz
  · have : j = i' := by
      have e1 := hT j hj o b r' hp
      have e2 := hT i' a2 o b r a3
      rw [e1] at e2
      have := (nI_eq (show j < 2 ^ 31 by omega) (show i' < 2 ^ 31 by omega)).mp e2
      exact this
    simp [this]
  · have : j ≠ i' := fun e => by
      subst e
      rw [a3] at hp
      have := (List.cons.inj hp).1
      exact hn z hz this.symm
    simp only [this, if_false]
    exact h z hz j r' hj hp
theorem m_fitl {g : Gr} (hg : g.1 ≤ 160) (hw : wfG g) {rt : Nat → Bool} {c k : Nat} (hc : c < 20) {sy : Nat → Nat} (hk : k ≤ 12) (hsy : ∀ i, i < k → sy i ≤ 7 ∧ pend sy i ≠ []) (hke : pend sy k = []) (t : Int32) : ∀ (f F i : Nat) (Z : List (Option (Nat × Bool) × Nat)) (P : Pns) (T : St), i + f = k → f < F → MrE g rt c k sy T → Z.map Prod.fst = pend sy i → (∀ z ∈ Z, z.2 < g.1) → LZ sy k Z (T 28 0) → (∀ p, p < 6 → T 29 0 p = P p) → ∃ T', l_X9_fits_49 F T (nI c) t (nI (12 * c)) (nI (nns sy k - nns sy i)) (nI i) = some (b01 (mrun g rt sy (tbt (nns sy k) t) f i (Z.map Prod.snd, P, nns sy i)).1, T') ∧ Same exF T T' ∧ ((mrun g rt sy (tbt (nns sy k) t) f i (Z.map Prod.snd, P, nns sy i)).1 = true → ∀ p, p < 6 → T' 29 0 p = (mrun g rt sy (tbt (nns sy k) t) f i (Z.map Prod.snd, P, nns sy i)).2.2 p) := by
  intro f
  induction f with
  | zero =>
    intro F i Z P T hi hF hM hL hx hst hP
    obtain ⟨F, rfl⟩ : ∃ F', F = F' + 1 := ⟨F - 1, by omega⟩
    rw [show l_X9_fits_49 (F + 1) = b_X9_fits_49 (l_X9_fits_49 F) from rfl]
    unfold b_X9_fits_49
    have e : i = k := by omega
    subst e
    rw [gd_t (ix_nI hc (by decide)), lt_, nI_clamp (show c < 2 ^ 31 by omega), hM.2.2.1, if_pos (nI_le (Nat.le_refl i) (by omega))]
    exact ⟨T, rfl, Same.rf, fun _ => hP⟩
  | succ f ih =>
    intro F i Z P T hi hF hM hL hx hst hP
    obtain ⟨F, rfl⟩ : ∃ F', F = F' + 1 := ⟨F - 1, by omega⟩
    have hik : i < k := by omega
    obtain ⟨hs7, hpe⟩ := hsy i hik
    obtain ⟨q0, v, r, rfl⟩ : ∃ q0 v r, Z = (q0, v) :: r := by
      cases Z with
      | nil => exact absurd hL.symm hpe
      | cons z r => exact ⟨z.1, z.2, r, rfl⟩
    have hpc : pend sy i = q0 :: r.map Prod.fst := by rw [← hL]; rfl
    have hv : v < g.1 := hx (q0, v) List.mem_cons_self
    obtain ⟨hE, hR, hk1, hML⟩ := id hM
    obtain ⟨m1, m2, m3, m4⟩ := hML
    obtain ⟨m5, m6⟩ := m3 i hik
    obtain ⟨q1, q2, q3⟩ := hE v hv
    obtain ⟨w1, w2, w3⟩ := hw v hv
    have hv28 : T 28 0 i = nI v := hst (q0, v) List.mem_cons_self i _ hik hpc
    have hst' : LZ sy k r (T 28 0) := fun z hz => hst z (List.mem_cons_of_mem _ hz)
    have hx' : ∀ z ∈ r, z.2 < g.1 := fun z hz => hx z (List.mem_cons_of_mem _ hz)
    have hb : nI (12 * c) + nI i = nI (12 * c + i) := nI_add _ _
    have hbx : ix (nI (12 * c + i)) 240 = true := ix_nI (by omega) (by decide)
    have hbc : (nI (12 * c + i)).toNatClampNeg = 12 * c + i := nI_clamp (by omega)
    have hi1 : nI i + 1 = nI (i + 1) := nI_1 i
    have hnr : ∀ z ∈ r, ∀ b, z.1 ≠ some (i, b) := fun z hz b e => by
      have := (pend_ok sy i).2.1 i b (by rw [hpc, ← e]; exact List.mem_cons_of_mem _ (List.mem_map_of_mem hz))
      omega
    rw [show l_X9_fits_49 (F + 1) = b_X9_fits_49 (l_X9_fits_49 F) from rfl]
    unfold b_X9_fits_49
    rw [gd_t (ix_nI hc (by decide)), lt_, nI_clamp (show c < 2 ^ 31 by omega), hk1, if_neg (nI_ge hik (by omega)), gd_t (ix_nI (show i < 12 by omega) (by decide)), lt_, nI_clamp (show i < 2 ^ 31 by omega), hv28, hb, gd_t hbx, lt_, hbc, m5]
    by_cases h6 : sy i < 6
    · -- a PIN
      have n7 : ¬ sy i = 7 := by omega
      have n6 : ¬ sy i = 6 := by omega
      have hpn : pend sy (i + 1) = r.map Prod.fst := by rw [pend, hpc]; simp only [if_neg n7, if_neg n6]
      rw [show sgn (sy i) = 3 from by unfold sgn; rw [if_neg n7, if_neg n6], if_pos rfl, gd_t hbx, lt_, m6, show ltr (sy i) = nI (sy i) from if_pos h6, gd_t (ix_nI h6 (by decide)), lt_, nI_clamp (show sy i < 2 ^ 31 by omega), hP _ h6]
      by_cases hp : P (sy i) = -4 ∨ P (sy i) = nI v
      · have ms : mstep g rt (tbt (nns sy k) t) (sy i) i (v :: r.map Prod.snd, P, nns sy i) = some (r.map Prod.snd, upd P (sy i) (nI v), nns sy i) := by
          unfold mstep
          simp only
          rw [if_pos h6, if_pos hp]
        have mr : mrun g rt sy (tbt (nns sy k) t) (f + 1) i (((q0, v) :: r).map Prod.snd, P, nns sy i) = mrun g rt sy (tbt (nns sy k) t) f (i + 1) (r.map Prod.snd, upd P (sy i) (nI v), nns sy (i + 1)) := by
          rw [show ((q0, v) :: r).map Prod.snd = v :: r.map Prod.snd from rfl, mrun, ms, nns_n7 n7]
        rw [mr]
        have s1 : Same exF T (put T 29 0 (sy i) (nI v)) := Same.rf.put (by decide)
        have fin : ∃ T', j_X9_fits_125 (l_X9_fits_49 F) T (nI c) t (nI (12 * c)) (nI (nns sy k - nns sy i)) (nI i) (nI v) (nI (sy i)) = some (b01 (mrun g rt sy (tbt (nns sy k) t) f (i + 1) (r.map Prod.snd, upd P (sy i) (nI v), nns sy (i + 1))).1, T') ∧ Same exF T T' ∧ ((mrun g rt sy (tbt (nns sy k) t) f (i + 1) (r.map Prod.snd, upd P (sy i) (nI v), nns sy (i + 1))).1 = true → ∀ p, p < 6 → T' 29 0 p = (mrun g rt sy (tbt (nns sy k) t) f (i + 1) (r.map Prod.snd, upd P (sy i) (nI v), nns sy (i + 1))).2.2 p) := by
          unfold j_X9_fits_125 j_X9_fits_291
          rw [gd_t (ix_nI h6 (by decide)), lt_, nI_clamp (show sy i < 2 ^ 31 by omega), lt_, hi1]
          obtain ⟨T', a1, a2, a3⟩ := ih F (i + 1) r (upd P (sy i) (nI v)) (put T 29 0 (sy i) (nI v)) (by omega) (by omega) (hM.same s1) hpn.symm hx' (by rw [put_o rfl]; exact hst') (fun p hp => by
            rw [put_row]
            by_cases z : p = sy i
            · subst z; simp [upd]
            · simp [upd, z, hP p hp])
          rw [nns_n7 n7] at a1 a3 ⊢
          exact ⟨T', a1, s1.tr a2, a3⟩
        by_cases h4 : P (sy i) = -4
        · rw [if_pos h4]; exact fin
        · have h5 : P (sy i) = nI v := by
            rcases hp with h | h
            · exact absurd h h4
            · exact h
          rw [if_neg h4, gd_t (ix_nI h6 (by decide)), lt_, if_pos h5]
          exact fin
      · have ms : mstep g rt (tbt (nns sy k) t) (sy i) i (v :: r.map Prod.snd, P, nns sy i) = none := by
          unfold mstep
          simp only
          rw [if_pos h6, if_neg hp]
        have mr : mrun g rt sy (tbt (nns sy k) t) (f + 1) i (((q0, v) :: r).map Prod.snd, P, nns sy i) = (false, nns sy i, P) := by
          rw [show ((q0, v) :: r).map Prod.snd = v :: r.map Prod.snd from rfl, mrun, ms]
        rw [mr, if_neg (fun h => hp (Or.inl h)), gd_t (ix_nI h6 (by decide)), lt_, if_neg (fun h => hp (Or.inr h))]
        exact ⟨T, rfl, Same.rf, fun h => by cases h⟩
    · have hsg : sgn (sy i) = nI (if sy i = 7 then 2 else 1) := by
        unfold sgn
        by_cases h7 : sy i = 7
        · rw [if_pos h7, if_pos h7]; rfl
        · rw [if_neg h7, if_neg h7, if_pos (show sy i = 6 by omega)]; rfl
      have hn3 : ¬ sgn (sy i) = 3 := by
        rw [hsg]
        by_cases h7 : sy i = 7
        · rw [if_pos h7]; decide
        · rw [if_neg h7]; decide
      have e1 : (nI (g.2 v).1 = nI (if sy i = 7 then 2 else 1)) ↔ ((g.2 v).1 = if sy i = 7 then 2 else 1) := Eq.to_iff (nI_inj (by omega) (by split <;> decide))
      have e0 : (nI i ≤ 0) ↔ (i = 0) := ⟨fun h => by
        by_cases z : i = 0
        · exact z
        · exact absurd h (nI_nle (by omega) (by omega)), fun h => by subst h; decide⟩
      rw [if_neg hn3, gd_t (ix_nI (show v < 200 by omega) (by decide)), lt_, nI_clamp (show v < 2 ^ 31 by omega), q1, hsg]
      by_cases hp : (g.2 v).1 = (if sy i = 7 then 2 else 1) ∧ (i = 0 ∨ rt v = false)
      · have fin : ∃ T', j_X9_fits_166 (l_X9_fits_49 F) T (nI c) t (nI (12 * c)) (nI (nns sy k - nns sy i)) (nI i) (nI v) (nI (if sy i = 7 then 2 else 1)) = some (b01 (mrun g rt sy (tbt (nns sy k) t) (f + 1) i (((q0, v) :: r).map Prod.snd, P, nns sy i)).1, T') ∧ Same exF T T' ∧ ((mrun g rt sy (tbt (nns sy k) t) (f + 1) i (((q0, v) :: r).map Prod.snd, P, nns sy i)).1 = true → ∀ p, p < 6 → T' 29 0 p = (mrun g rt sy (tbt (nns sy k) t) (f + 1) i (((q0, v) :: r).map Prod.snd, P, nns sy i)).2.2 p) := by
          unfold j_X9_fits_166
          by_cases h7 : sy i = 7
          · -- an N
            rw [if_pos h7] at hp
            have hO : T 9 0 v = nI (g.2 v).2.1 := by rw [q2, eO_of (by omega)]
            have hW : T 10 0 v = nI (g.2 v).2.2 := by rw [q3, eW_of hp.1]
            have w2 := w2 (by omega)
            have w3 := w3 hp.1
            have nn := nns_7 h7
            have nle := nns_le (sy := sy) (i := i + 1) (k := k) (by omega)
            have hpn : pend sy (i + 1) = some (i, false) :: some (i, true) :: r.map Prod.fst := by rw [pend, hpc]; simp only [if_pos h7]
            rw [if_pos h7, if_neg (show ¬ nI 2 = 1 from by decide), lt_, nI_m1 (show 0 < nns sy k - nns sy i by omega), show nns sy k - nns sy i - 1 = nns sy k - (nns sy i + 1) from by omega]
            have ms : mstep g rt (tbt (nns sy k) t) (sy i) i (v :: r.map Prod.snd, P, nns sy i) = some (ptA g (tbt (nns sy k) t (nns sy i)) v :: ptA g (!(tbt (nns sy k) t (nns sy i))) v :: r.map Prod.snd, P, nns sy i + 1) := by
              unfold mstep
              simp only
              rw [if_neg h6, if_pos h7, if_pos hp, if_pos h7]
            have mr : mrun g rt sy (tbt (nns sy k) t) (f + 1) i (((q0, v) :: r).map Prod.snd, P, nns sy i) = mrun g rt sy (tbt (nns sy k) t) f (i + 1) (ptA g (tbt (nns sy k) t (nns sy i)) v :: ptA g (!(tbt (nns sy k) t (nns sy i))) v :: r.map Prod.snd, P, nns sy (i + 1)) := by
              rw [show ((q0, v) :: r).map Prod.snd = v :: r.map Prod.snd from rfl, mrun, ms, nn]
            rw [mr]
            -- what comes of it, told by the turn
            have fin : ∀ x y : Nat, x < g.1 → y < g.1 → ∀ z : Int32, (z = 0 → T 10 0 v = nI y) → (z ≠ 0 → T 9 0 v = nI y) → ∃ i' T', i' < k ∧ T 24 0 (12 * c + i) = nI i' ∧ j_X9_fits_253 (l_X9_fits_49 F) T (nI c) t (nI (12 * c)) (nI (nns sy k - (nns sy i + 1))) (nI i) (nI v) z (nI i') (nI x) = some (b01 (mrun g rt sy (tbt (nns sy k) t) f (i + 1) (x :: y :: r.map Prod.snd, P, nns sy (i + 1))).1, T') ∧ Same exF T T' ∧ ((mrun g rt sy (tbt (nns sy k) t) f (i + 1) (x :: y :: r.map Prod.snd, P, nns sy (i + 1))).1 = true → ∀ p, p < 6 → T' 29 0 p = (mrun g rt sy (tbt (nns sy k) t) f (i + 1) (x :: y :: r.map Prod.snd, P, nns sy (i + 1))).2.2 p) := by
              intro x y hx1 hy1 z hz1 hz2
              obtain ⟨i2, b1, b2, b3⟩ := LZ.lay (x := y) m4 hk hke (o := i) (b := true) (by rw [hpn]; simp) hik hst' (fun z hz => hnr z hz true)
              obtain ⟨i1, c1, c2, c3⟩ := LZ.lay (x := x) m4 hk hke (o := i) (b := false) (by rw [hpn]; simp) hik b3 (fun z hz => by
                rcases List.mem_cons.mp hz with rfl | hz
                · simp
                · exact hnr z hz false)
              have b2 : T 25 0 (12 * c + i) = nI i2 := b2
              have c2 : T 24 0 (12 * c + i) = nI i1 := c2
              have ne : i1 ≠ i2 := fun e => by
                obtain ⟨j1, r1, -, l1, p1⟩ := pend_pop hke (k - (i + 1)) (i + 1) (by omega) (show some (i, false) ∈ pend sy (i + 1) by rw [hpn]; simp)
                obtain ⟨j2, r2, -, l2, p2⟩ := pend_pop hke (k - (i + 1)) (i + 1) (by omega) (show some (i, true) ∈ pend sy (i + 1) by rw [hpn]; simp)
                have d1 : T 24 0 (12 * c + i) = nI j1 := m4 j1 l1 i false r1 p1
                have d2 : T 25 0 (12 * c + i) = nI j2 := m4 j2 l2 i true r2 p2
                have d3 : i1 = j1 := (nI_eq (by omega) (by omega)).mp (c2.symm.trans d1)
                have d4 : i2 = j2 := (nI_eq (by omega) (by omega)).mp (b2.symm.trans d2)
                rw [← d3, e, d4, p2] at p1
                have := (List.cons.inj p1).1
                simp at this
              generalize hT1 : put (put T 28 0 i1 (nI x)) 28 0 i2 (nI y) = T1
              have s1 : Same exF T T1 := by rw [← hT1]; exact (Same.rf.put (by decide)).put (by decide)
              have r1 : T1 28 0 = fun j => if j = i1 then nI x else if j = i2 then nI y else T 28 0 j := by
                funext j
                rw [← hT1, put_jj, put_jj]
                by_cases e : j = i2
                · rw [if_pos e, if_neg (by omega), if_pos e]
                · rw [if_neg e]
                  by_cases e2 : j = i1
                  · rw [if_pos e2, if_pos e2]
                  · rw [if_neg e2, if_neg e2, if_neg e]
              have r2 : T1 29 0 = T 29 0 := by rw [← hT1, put_o rfl, put_o rfl]
              obtain ⟨T', a1, a2, a3⟩ := ih F (i + 1) ((some (i, false), x) :: (some (i, true), y) :: r) P T1 (by omega) (by omega) (hM.same s1) (by rw [hpn]; rfl) (fun w hm => by
                rcases List.mem_cons.mp hm with rfl | hm
                · exact hx1
                · rcases List.mem_cons.mp hm with rfl | hm
                  · exact hy1
                  · exact hx' w hm) (by rw [r1]; exact c3) (fun p hp => by rw [r2]; exact hP p hp)
              refine ⟨i1, T', c1, c2, ?_, s1.tr a2, ?_⟩
              · unfold j_X9_fits_253 j_X9_fits_290 j_X9_fits_291
                have e25 : put T 28 0 i1 (nI x) 25 0 = T 25 0 := put_o rfl
                have e10 : put T 28 0 i1 (nI x) 10 0 = T 10 0 := put_o rfl
                have e9 : put T 28 0 i1 (nI x) 9 0 = T 9 0 := put_o rfl
                rw [gd_t (ix_nI (show i1 < 12 by omega) (by decide)), lt_, nI_clamp (show i1 < 2 ^ 31 by omega), hb, gd_t hbx, lt_, hbc, e25, b2]
                by_cases hz : z = 0
                · rw [if_pos hz, gd_t (ix_nI (show v < 200 by omega) (by decide)), lt_, nI_clamp (show v < 2 ^ 31 by omega), e10, hz1 hz, gd_t (ix_nI (show i2 < 12 by omega) (by decide)), lt_, nI_clamp (show i2 < 2 ^ 31 by omega), hT1, lt_, hi1]
                  rw [nn] at a1 ⊢
                  exact a1
                · rw [if_neg hz, gd_t (ix_nI (show v < 200 by omega) (by decide)), lt_, nI_clamp (show v < 2 ^ 31 by omega), e9, hz2 hz, gd_t (ix_nI (show i2 < 12 by omega) (by decide)), lt_, nI_clamp (show i2 < 2 ^ 31 by omega), hT1, lt_, hi1]
                  rw [nn] at a1 ⊢
                  exact a1
              · rw [nn] at a3 ⊢
                exact a3
            cases hb2 : tbt (nns sy k) t (nns sy i) with
            | true =>
              rw [if_pos (of_decide_eq_true hb2)]
              obtain ⟨i', T', d1, d2, d3, d4, d5⟩ := fin (g.2 v).2.2 (g.2 v).2.1 (by omega) (by omega) 1 (fun h => absurd h (by decide)) (fun _ => hO)
              unfold j_X9_fits_215
              rw [hb, gd_t hbx, lt_, hbc, d2, if_neg (show ¬ (1 : Int32) = 0 from by decide), gd_t (ix_nI (show v < 200 by omega) (by decide)), lt_, nI_clamp (show v < 2 ^ 31 by omega), hW]
              exact ⟨T', d3, d4, d5⟩
            | false =>
              rw [if_neg (of_decide_eq_false hb2)]
              obtain ⟨i', T', d1, d2, d3, d4, d5⟩ := fin (g.2 v).2.1 (g.2 v).2.2 (by omega) (by omega) 0 (fun _ => hW) (fun h => absurd rfl h)
              unfold j_X9_fits_215
              rw [hb, gd_t hbx, lt_, hbc, d2, if_pos rfl, gd_t (ix_nI (show v < 200 by omega) (by decide)), lt_, nI_clamp (show v < 2 ^ 31 by omega), hO]
              exact ⟨T', d3, d4, d5⟩
          · -- an I
            rw [if_neg h7] at hp
            have s6 : sy i = 6 := by omega
            have hO : T 9 0 v = nI (g.2 v).2.1 := by rw [q2, eO_of (by omega)]
            have w2 := w2 (by omega)
            have hpn : pend sy (i + 1) = some (i, false) :: r.map Prod.fst := by rw [pend, hpc]; simp only [if_neg h7, if_pos s6]
            obtain ⟨i1, c1, c2, c3⟩ := LZ.lay (x := (g.2 v).2.1) m4 hk hke (o := i) (b := false) (by rw [hpn]; simp) hik hst' (fun z hz => hnr z hz false)
            have c2 : T 24 0 (12 * c + i) = nI i1 := c2
            rw [if_neg h7, if_pos (show nI 1 = 1 from rfl), hb, gd_t hbx, lt_, hbc, c2, gd_t (ix_nI (show v < 200 by omega) (by decide)), lt_, nI_clamp (show v < 2 ^ 31 by omega), hO, gd_t (ix_nI (show i1 < 12 by omega) (by decide)), lt_, nI_clamp (show i1 < 2 ^ 31 by omega)]
            have ms : mstep g rt (tbt (nns sy k) t) (sy i) i (v :: r.map Prod.snd, P, nns sy i) = some ((g.2 v).2.1 :: r.map Prod.snd, P, nns sy i) := by
              unfold mstep
              simp only
              rw [if_neg h6, if_neg h7, if_pos hp, if_neg h7]
            have mr : mrun g rt sy (tbt (nns sy k) t) (f + 1) i (((q0, v) :: r).map Prod.snd, P, nns sy i) = mrun g rt sy (tbt (nns sy k) t) f (i + 1) ((g.2 v).2.1 :: r.map Prod.snd, P, nns sy (i + 1)) := by
              rw [show ((q0, v) :: r).map Prod.snd = v :: r.map Prod.snd from rfl, mrun, ms, nns_n7 h7]
            rw [mr]
            unfold j_X9_fits_291
            rw [lt_, hi1]
            have s1 : Same exF T (put T 28 0 i1 (nI (g.2 v).2.1)) := Same.rf.put (by decide)
            obtain ⟨T', a1, a2, a3⟩ := ih F (i + 1) ((some (i, false), (g.2 v).2.1) :: r) P (put T 28 0 i1 (nI (g.2 v).2.1)) (by omega) (by omega) (hM.same s1) (by rw [hpn]; rfl) (fun w hm => by
              rcases List.mem_cons.mp hm with rfl | hm
              · show (g.2 v).2.1 < g.1
                omega
              · exact hx' w hm) (by rw [put_row]; exact c3) (fun p hp => by rw [put_o rfl]; exact hP p hp)
            rw [nns_n7 h7] at a1 a3 ⊢
            exact ⟨T', a1, s1.tr a2, a3⟩
        rw [if_pos (e1.mpr hp.1)]
        by_cases z : i = 0
        · rw [if_pos (e0.mpr z)]; exact fin
        · have hr : rt v = false := by
            rcases hp.2 with h | h
            · exact absurd h z
            · exact h
          rw [if_neg (fun h => z (e0.mp h)), gd_t (ix_nI (show v < 200 by omega) (by decide)), lt_, hR v hv, hr, if_pos (show b01 false = 0 from rfl)]
          exact fin
      · have ms : mstep g rt (tbt (nns sy k) t) (sy i) i (v :: r.map Prod.snd, P, nns sy i) = none := by
          unfold mstep
          simp only
          rw [if_neg h6, if_neg hp]
        have mr : mrun g rt sy (tbt (nns sy k) t) (f + 1) i (((q0, v) :: r).map Prod.snd, P, nns sy i) = (false, nns sy i, P) := by
          rw [show ((q0, v) :: r).map Prod.snd = v :: r.map Prod.snd from rfl, mrun, ms]
        rw [mr]
        by_cases h1 : (g.2 v).1 = if sy i = 7 then 2 else 1
        · have z : i ≠ 0 := fun z => hp ⟨h1, Or.inl z⟩
          have hr : rt v = true := by
            cases hq : rt v with
            | true => rfl
            | false => exact absurd ⟨h1, Or.inr hq⟩ hp
          rw [if_pos (e1.mpr h1), if_neg (fun h => z (e0.mp h)), gd_t (ix_nI (show v < 200 by omega) (by decide)), lt_, hR v hv, hr, if_neg (show ¬ b01 true = 0 from by decide)]
          exact ⟨T, rfl, Same.rf, fun h => by cases h⟩
        · rw [if_neg (fun h => h1 (e1.mp h))]
          exact ⟨T, rfl, Same.rf, fun h => by cases h⟩
theorem m_fit17 (K : St → Int32 → Int32 → Int32 → Int32 → Int32 → Option (Int32 × St)) (x1 x2 x3 x4 x5 : Int32) : ∀ (f p : Nat) (T : St), p ≤ 6 → 6 - p < f → (∀ j, j < p → T 29 0 j = -4) → ∃ T', l_X9_fits_17 K f T x1 x2 x3 x4 x5 (nI p) = K T' x1 x2 x3 x4 x5 ∧ Same [(29, 0)] T T' ∧ ∀ j, j < 6 → T' 29 0 j = -4 := by
  intro f
  induction f with
  | zero => intro p T _ h; exact absurd h (by omega)
  | succ f ih =>
    intro p T hp hf h
    rw [show l_X9_fits_17 K (f + 1) = b_X9_fits_17 (l_X9_fits_17 K f) K from rfl]
    unfold b_X9_fits_17
    by_cases e : p = 6
    · subst e
      rw [if_pos (show (6 : Int32) ≤ nI 6 from by decide)]
      exact ⟨T, rfl, Same.rf, h⟩
    · rw [if_neg (show ¬ (6 : Int32) ≤ nI p from nI_ge (b := 6) (show p < 6 by omega) (by decide)), gd_t (ix_nI (show p < 6 by omega) (by decide)), lt_, lt_, nI_clamp (show p < 2 ^ 31 by omega), nI_1]
      obtain ⟨S', a1, a2, a3⟩ := ih (p + 1) (put T 29 0 p (-4)) (by omega) (by omega) (fun j hj => by
        rw [put_jj]
        by_cases z : j = p
        · rw [if_pos z]
        · rw [if_neg z]; exact h j (by omega))
      exact ⟨S', a1, (Same.rf.put (by decide)).tr a2, a3⟩
/-- fits() -/
theorem m_fits {g : Gr} (hg : g.1 ≤ 160) (hw : wfG g) {rt : Nat → Bool} {c k top : Nat} (hc : c < 20) {sy : Nat → Nat} (hk : k ≤ 12) (hsy : ∀ i, i < k → sy i ≤ 7 ∧ pend sy i ≠ []) (hke : pend sy k = []) (ht : top < g.1) (t : Int32) {T : St} (hM : MrE g rt c k sy T) : ∃ T', f_X9_fits (nI c) (nI top) t T = some (b01 (mat g rt sy k top (tbt (nns sy k) t)).1, T') ∧ Same exF T T' ∧ ((mat g rt sy k top (tbt (nns sy k) t)).1 = true → ∀ p, p < 6 → T' 29 0 p = (mat g rt sy k top (tbt (nns sy k) t)).2.2 p) := by
  unfold f_X9_fits
  rw [lt_, gd_t (ix_nI hc (by decide)), lt_, nI_clamp (show c < 2 ^ 31 by omega), hM.2.2.2.1, show (12 : Int32) * nI c = nI (12 * c) from pk_mul 12 c]
  obtain ⟨T1, a1, a2, a3⟩ := m_fit17 (fun S x1 x2 x3 x4 x5 => gd (ix 0 12) (lt_ (put S 28 0 (0 : Int32).toNatClampNeg x2) (fun S_9 => l_X9_fits_49 5000 S_9 x1 x3 x4 x5 0))) (nI c) (nI top) t (nI (12 * c)) (nI (nns sy k)) 5000 0 T (by omega) (by omega) (fun j hj => absurd hj (by omega))
  have a1 : l_X9_fits_17 (fun S x1 x2 x3 x4 x5 => gd (ix 0 12) (lt_ (put S 28 0 (0 : Int32).toNatClampNeg x2) (fun S_9 => l_X9_fits_49 5000 S_9 x1 x3 x4 x5 0))) 5000 T (nI c) (nI top) t (nI (12 * c)) (nI (nns sy k)) 0 = _ := a1
  rw [a1, gd_t (show ix 0 12 = true from by decide), lt_, show (0 : Int32).toNatClampNeg = 0 from by decide]
  have s1 : Same exF T (put T1 28 0 0 (nI top)) := (a2.mono (by decide)).put (by decide)
  obtain ⟨T', b1, b2, b3⟩ := m_fitl hg hw hc hk hsy hke t k 5000 0 [(none, top)] (fun _ => -4) (put T1 28 0 0 (nI top)) (by omega) (by omega) (hM.same s1) rfl (fun x hm => by
    have : x = (none, top) := by simpa using hm
    subst this
    exact ht) (fun z hm i' r hi' hp => by
      have e1 : z = (none, top) := by simpa using hm
      subst e1
      by_cases e : i' = 0
      · subst e; rw [put_self]
      · have := (pend_ok sy i').2.2 0 (by omega) none [] rfl
        rw [hp] at this
        exact absurd List.mem_cons_self this) (fun p hp => by rw [put_o rfl]; exact a3 p hp)
  exact ⟨T', b1, s1.tr b2, b3⟩
