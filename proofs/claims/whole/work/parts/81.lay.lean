/-! lay() of the class -/
/-- what the class's matcher looks at -/
def McE (g : Gr) (rt : Nat → Bool) (c k : Nat) (sy : Nat → Nat) (S : St) : Prop := EG g (S 9 0) (S 10 0) (S 11 0) ∧ (∀ v, v < g.1 → S 14 0 v = b01 (rt v)) ∧ S 8 c 1 = nI k ∧ S 8 c 2 = nI (nns sy k) ∧ (∀ i, i < k → S 36 c i = nI (sy i)) ∧ S 5 0 3 = nI c
def exL : List (Nat × Nat) := [(25, 0), (26, 0)]
theorem McE.same {g : Gr} {rt : Nat → Bool} {c k : Nat} {sy : Nat → Nat} {S S' : St} (h : McE g rt c k sy S) (s : Same exL S S') : McE g rt c k sy S' := by
  unfold McE
  rw [s 9 0 (by decide), s 10 0 (by decide), s 11 0 (by decide), s 14 0 (by decide), s 8 c (by simp [exL]), s 36 c (by simp [exL]), s 5 0 (by decide)]
  exact h
theorem eO_of {t : Nat × Nat × Nat} (h : t.1 ≠ 0) : eO t = nI t.2.1 := if_neg h
theorem eW_of {t : Nat × Nat × Nat} (h : t.1 = 2) : eW t = nI t.2.2 := if_pos h
theorem c_layl {g : Gr} (hg : g.1 ≤ 160) (hw : wfG g) {rt : Nat → Bool} {c k : Nat} (hc : c < 20) {sy : Nat → Nat} (hk : k ≤ 12) (hsy : ∀ i, i < k → sy i ≤ 7 ∧ pend sy i ≠ []) (t : Int32) : ∀ (f F i : Nat) (L : List Nat) (P : Pns) (S : St), i + f = k → f < F → McE g rt c k sy S → L.length = (pend sy i).length → (∀ x ∈ L, x < g.1) → HS L (S 25 0) → (∀ p, p < 6 → S 26 0 p = P p) → ∃ S', l_X4_lay_39 F S t (nI L.length) (nI (nns sy i)) (nI i) = some (if (mrun g rt sy (tbt (nns sy k) t) f i (L, P, nns sy i)).1 = true then -1 else nI (mrun g rt sy (tbt (nns sy k) t) f i (L, P, nns sy i)).2.1, S') ∧ Same exL S S' ∧ ((mrun g rt sy (tbt (nns sy k) t) f i (L, P, nns sy i)).1 = true → ∀ p, p < 6 → S' 26 0 p = (mrun g rt sy (tbt (nns sy k) t) f i (L, P, nns sy i)).2.2 p) := by
  intro f
  induction f with
  | zero =>
    intro F i L P S hi hF hM hL hx hst hP
    obtain ⟨F, rfl⟩ : ∃ F', F = F' + 1 := ⟨F - 1, by omega⟩
    rw [show l_X4_lay_39 (F + 1) = b_X4_lay_39 (l_X4_lay_39 F) from rfl]
    unfold b_X4_lay_39
    have e : i = k := by omega
    subst e
    rw [hM.2.2.2.2.2, if_neg (nI_pos (show c < 2 ^ 31 by omega)), gd_t (ix_nI hc (by decide)), nI_clamp (show c < 2 ^ 31 by omega), hM.2.2.1, if_pos (nI_le (Nat.le_refl i) (by omega))]
    exact ⟨S, rfl, Same.rf, fun _ => hP⟩
  | succ f ih =>
    intro F i L P S hi hF hM hL hx hst hP
    obtain ⟨F, rfl⟩ : ∃ F', F = F' + 1 := ⟨F - 1, by omega⟩
    have hik : i < k := by omega
    obtain ⟨hs7, hpe⟩ := hsy i hik
    have hpl := pend_le sy i
    obtain ⟨v, r, rfl⟩ : ∃ v r, L = v :: r := by
      cases L with
      | nil => exact absurd (List.length_eq_zero_iff.mp hL.symm) hpe
      | cons v r => exact ⟨v, r, rfl⟩
    have hrl : r.length + 1 = (pend sy i).length := by rw [← hL]; rfl
    have hv : v < g.1 := hx v List.mem_cons_self
    obtain ⟨hE, hR, hk1, hk2, hk3, hk5⟩ := id hM
    have hF' : ∀ v, v < g.1 → S 9 0 v = nI (g.2 v).1 := fun v hv => (hE v hv).1
    have h0 : f_X4_fits (nI (sy i)) (nI v) (if i = 0 then 1 else 0) S = _ := c_fit hg hF' hw hR hP (i := i) hs7 hv (if i = 0 then 1 else 0) (by by_cases e : i = 0 <;> simp [e])
    have step : l_X4_lay_39 (F + 1) S t (nI (v :: r).length) (nI (nns sy i)) (nI i) = j_X4_lay_89 (l_X4_lay_39 F) S t (nI r.length) (nI (nns sy i)) (nI i) (nI (sy i)) (nI v) (nI (sy i)) (nI v) (if i = 0 then 1 else 0) := by
      rw [show l_X4_lay_39 (F + 1) = b_X4_lay_39 (l_X4_lay_39 F) from rfl]
      unfold b_X4_lay_39
      rw [hk5, if_neg (nI_pos (show c < 2 ^ 31 by omega)), gd_t (ix_nI hc (by decide)), nI_clamp (show c < 2 ^ 31 by omega), hk1, if_neg (nI_ge hik (by omega)), if_neg (nI_pos (show c < 2 ^ 31 by omega)), gd_t (ix_nI hc (by decide)), gd_t (ix_nI (show i < 12 by omega) (by decide)), lt_, nI_clamp (show i < 2 ^ 31 by omega), hk3 i hik, lt_, show (v :: r).length = r.length + 1 from rfl, pk_m1, gd_t (ix_nI (show r.length < 13 by omega) (by decide)), lt_, nI_clamp (show r.length < 2 ^ 31 by omega), hst.1]
      have e0 : (nI i = 0) ↔ (i = 0) := Eq.to_iff (nI_inj (b := 0) (by omega) (by decide))
      by_cases e : i = 0
      · rw [if_pos (e0.mpr e), if_pos e]
      · rw [if_neg (fun q => e (e0.mp q)), if_neg e]
    rw [step]
    unfold j_X4_lay_89
    rw [bi_e h0]
    have e6 : (nI (sy i) = 6) ↔ (sy i = 6) := Eq.to_iff (nI_inj (b := 6) (by omega) (by decide))
    have e7 : (nI (sy i) = 7) ↔ (sy i = 7) := Eq.to_iff (nI_inj (b := 7) (by omega) (by decide))
    have hi1 : nI i + 1 = nI (i + 1) := nI_1 i
    by_cases h6 : sy i < 6
    · -- a PIN
      rw [if_pos h6]
      have n7 : ¬ sy i = 7 := by omega
      by_cases hp : P (sy i) = -4 ∨ P (sy i) = nI v
      · rw [decide_eq_true hp, if_neg (show ¬ b01 true = 0 from by decide), if_neg (fun q => n7 (e7.mp q)), if_neg (fun q => absurd (e6.mp q) (by omega)), gd_t (ix_nI h6 (by decide)), lt_, nI_clamp (show sy i < 2 ^ 31 by omega)]
        have ms : mstep g rt (tbt (nns sy k) t) (sy i) i (v :: r, P, nns sy i) = some (r, upd P (sy i) (nI v), nns sy i) := by
          unfold mstep
          simp only
          rw [if_pos h6, if_pos hp]
        have mr : mrun g rt sy (tbt (nns sy k) t) (f + 1) i (v :: r, P, nns sy i) = mrun g rt sy (tbt (nns sy k) t) f (i + 1) (r, upd P (sy i) (nI v), nns sy (i + 1)) := by
          rw [mrun, ms, nns_n7 n7]
        rw [mr]
        unfold j_X4_lay_245
        rw [lt_, hi1]
        have s1 : Same exL S (put S 26 0 (sy i) (nI v)) := Same.rf.put (by decide)
        have pl : r.length = (pend sy (i + 1)).length := by
          rw [pend_len hpe, nxd, if_neg n7, if_neg (show ¬ sy i = 6 by omega)]; omega
        obtain ⟨S', a1, a2, a3⟩ := ih F (i + 1) r (upd P (sy i) (nI v)) (put S 26 0 (sy i) (nI v)) (by omega) (by omega) (hM.same s1) pl (fun x hm => hx x (List.mem_cons_of_mem _ hm)) (by rw [put_o rfl]; exact hst.2) (fun p hp => by
          rw [put_row]
          by_cases z : p = sy i
          · subst z; simp [upd]
          · simp [upd, z, hP p hp])
        rw [nns_n7 n7] at a1 a3 ⊢
        exact ⟨S', a1, s1.tr a2, a3⟩
      · rw [decide_eq_false hp, if_pos (show b01 false = 0 from rfl)]
        have ms : mstep g rt (tbt (nns sy k) t) (sy i) i (v :: r, P, nns sy i) = none := by
          unfold mstep
          simp only
          rw [if_pos h6, if_neg hp]
        have mr : mrun g rt sy (tbt (nns sy k) t) (f + 1) i (v :: r, P, nns sy i) = (false, nns sy i, P) := by
          rw [mrun, ms]
        rw [mr]
        exact ⟨S, rfl, Same.rf, fun h => by cases h⟩
    · rw [if_neg h6]
      by_cases hp : (g.2 v).1 = (if sy i = 7 then 2 else 1) ∧ (i = 0 ∨ rt v = false)
      · rw [decide_eq_true hp, if_neg (show ¬ b01 true = 0 from by decide)]
        obtain ⟨q1, q2, q3⟩ := hE v hv
        obtain ⟨w1, w2, w3⟩ := hw v hv
        by_cases h7 : sy i = 7
        · -- an N
          rw [if_pos h7] at hp
          have hO : S 10 0 v = nI (g.2 v).2.1 := by rw [q2, eO_of (by omega)]
          have hW : S 11 0 v = nI (g.2 v).2.2 := by rw [q3, eW_of hp.1]
          have w2 := w2 (by omega)
          have w3 := w3 hp.1
          have nn := nns_7 h7
          have nle := nns_le (sy := sy) (i := i + 1) (k := k) (by omega)
          rw [if_pos (e7.mpr h7), lt_, nI_1, hk5, if_neg (nI_pos (show c < 2 ^ 31 by omega)), gd_t (ix_nI hc (by decide)), nI_clamp (show c < 2 ^ 31 by omega), hk2, pk_sub (show nns sy i + 1 ≤ nns sy k by omega)]
          have ms : mstep g rt (tbt (nns sy k) t) (sy i) i (v :: r, P, nns sy i) = some (ptA g (tbt (nns sy k) t (nns sy i)) v :: ptA g (!(tbt (nns sy k) t (nns sy i))) v :: r, P, nns sy i + 1) := by
            unfold mstep
            simp only
            rw [if_neg h6, if_pos h7, if_pos hp, if_pos h7]
          have mr : mrun g rt sy (tbt (nns sy k) t) (f + 1) i (v :: r, P, nns sy i) = mrun g rt sy (tbt (nns sy k) t) f (i + 1) (ptA g (tbt (nns sy k) t (nns sy i)) v :: ptA g (!(tbt (nns sy k) t (nns sy i))) v :: r, P, nns sy (i + 1)) := by
            rw [mrun, ms, nn]
          rw [mr]
          have pl : r.length + 2 = (pend sy (i + 1)).length := by
            rw [pend_len hpe, nxd, if_pos h7]; omega
          have pl2 := pend_le sy (i + 1)
          -- what comes of it, told by the turn
          have fin : ∀ x y : Nat, x < g.1 → y < g.1 → ∃ S', j_X4_lay_200 (l_X4_lay_39 F) (put S 25 0 r.length (nI y)) t (nI r.length) (nI (nns sy i + 1)) (nI i) (nI r.length + 1) (nI x) = some (if (mrun g rt sy (tbt (nns sy k) t) f (i + 1) (x :: y :: r, P, nns sy (i + 1))).1 = true then -1 else nI (mrun g rt sy (tbt (nns sy k) t) f (i + 1) (x :: y :: r, P, nns sy (i + 1))).2.1, S') ∧ Same exL S S' ∧ ((mrun g rt sy (tbt (nns sy k) t) f (i + 1) (x :: y :: r, P, nns sy (i + 1))).1 = true → ∀ p, p < 6 → S' 26 0 p = (mrun g rt sy (tbt (nns sy k) t) f (i + 1) (x :: y :: r, P, nns sy (i + 1))).2.2 p) := by
            intro x y hx1 hy1
            unfold j_X4_lay_200 j_X4_lay_245
            rw [nI_1, gd_t (ix_nI (show r.length + 1 < 13 by omega) (by decide)), lt_, nI_clamp (show r.length + 1 < 2 ^ 31 by omega), lt_, lt_, hi1, show (2 : Int32) = nI 2 from rfl, nI_add]
            have s1 : Same exL S (put (put S 25 0 r.length (nI y)) 25 0 (r.length + 1) (nI x)) := (Same.rf.put (by decide)).put (by decide)
            obtain ⟨S', a1, a2, a3⟩ := ih F (i + 1) (x :: y :: r) P (put (put S 25 0 r.length (nI y)) 25 0 (r.length + 1) (nI x)) (by omega) (by omega) (hM.same s1) (by simp; omega) (fun z hm => by
                rcases List.mem_cons.mp hm with rfl | hm
                · exact hx1
                · rcases List.mem_cons.mp hm with rfl | hm
                  · exact hy1
                  · exact hx z (List.mem_cons_of_mem _ hm)) ⟨by rw [put_jj]; simp, by rw [put_jj, put_jj]; simp, hst.2.cg (fun j hj => by rw [put_jj, put_jj, if_neg (by omega), if_neg (by omega)])⟩ (fun p hp => by rw [put_o rfl, put_o rfl]; exact hP p hp)
            rw [nn] at a1 a3 ⊢
            exact ⟨S', a1, s1.tr a2, a3⟩
          cases hb : tbt (nns sy k) t (nns sy i) with
          | true =>
            rw [if_pos (of_decide_eq_true hb)]
            unfold j_X4_lay_129 j_X4_lay_164
            rw [if_neg (show ¬ (1 : Int32) = 0 from by decide), gd_t (ix_nI (show v < 160 by omega) (by decide)), lt_, nI_clamp (show v < 2 ^ 31 by omega), hO, gd_t (ix_nI (show r.length < 13 by omega) (by decide)), lt_, nI_clamp (show r.length < 2 ^ 31 by omega), if_neg (show ¬ (1 : Int32) = 0 from by decide), gd_t (ix_nI (show v < 160 by omega) (by decide)), lt_, put_o rfl, hW]
            exact fin _ _ (by omega) (by omega)
          | false =>
            rw [if_neg (of_decide_eq_false hb)]
            unfold j_X4_lay_129 j_X4_lay_164
            rw [if_pos rfl, gd_t (ix_nI (show v < 160 by omega) (by decide)), lt_, nI_clamp (show v < 2 ^ 31 by omega), hW, gd_t (ix_nI (show r.length < 13 by omega) (by decide)), lt_, nI_clamp (show r.length < 2 ^ 31 by omega), if_pos rfl, gd_t (ix_nI (show v < 160 by omega) (by decide)), lt_, put_o rfl, hO]
            exact fin _ _ (by omega) (by omega)
        · -- an I
          rw [if_neg h7] at hp
          have s6 : sy i = 6 := by omega
          have hO : S 10 0 v = nI (g.2 v).2.1 := by rw [q2, eO_of (by omega)]
          have w2 := w2 (by omega)
          rw [if_neg (fun q => h7 (e7.mp q)), if_pos (e6.mpr s6), gd_t (ix_nI (show v < 160 by omega) (by decide)), lt_, nI_clamp (show v < 2 ^ 31 by omega), hO, gd_t (ix_nI (show r.length < 13 by omega) (by decide)), lt_, nI_clamp (show r.length < 2 ^ 31 by omega), lt_, nI_1]
          have ms : mstep g rt (tbt (nns sy k) t) (sy i) i (v :: r, P, nns sy i) = some ((g.2 v).2.1 :: r, P, nns sy i) := by
            unfold mstep
            simp only
            rw [if_neg h6, if_neg h7, if_pos hp, if_neg h7]
          have mr : mrun g rt sy (tbt (nns sy k) t) (f + 1) i (v :: r, P, nns sy i) = mrun g rt sy (tbt (nns sy k) t) f (i + 1) ((g.2 v).2.1 :: r, P, nns sy (i + 1)) := by
            rw [mrun, ms, nns_n7 h7]
          rw [mr]
          unfold j_X4_lay_245
          rw [lt_, hi1]
          have s1 : Same exL S (put S 25 0 r.length (nI (g.2 v).2.1)) := Same.rf.put (by decide)
          have pl : r.length + 1 = (pend sy (i + 1)).length := by
            rw [pend_len hpe, nxd, if_neg h7, if_pos s6]; omega
          obtain ⟨S', a1, a2, a3⟩ := ih F (i + 1) ((g.2 v).2.1 :: r) P (put S 25 0 r.length (nI (g.2 v).2.1)) (by omega) (by omega) (hM.same s1) (by simp; omega) (fun z hm => by
              rcases List.mem_cons.mp hm with rfl | hm
              · omega
              · exact hx z (List.mem_cons_of_mem _ hm)) ⟨by rw [put_jj]; simp, hst.2.cg (fun j hj => by rw [put_jj, if_neg (by omega)])⟩ (fun p hp => by rw [put_o rfl]; exact hP p hp)
          rw [nns_n7 h7] at a1 a3 ⊢
          exact ⟨S', a1, s1.tr a2, a3⟩
      · rw [decide_eq_false hp, if_pos (show b01 false = 0 from rfl)]
        have ms : mstep g rt (tbt (nns sy k) t) (sy i) i (v :: r, P, nns sy i) = none := by
          unfold mstep
          simp only
          rw [if_neg h6, if_neg hp]
        have mr : mrun g rt sy (tbt (nns sy k) t) (f + 1) i (v :: r, P, nns sy i) = (false, nns sy i, P) := by
          rw [mrun, ms]
        rw [mr]
        exact ⟨S, rfl, Same.rf, fun h => by cases h⟩
theorem c_lay2 (K : St → Int32 → Option (Int32 × St)) (t : Int32) : ∀ (f p : Nat) (S : St), p ≤ 6 → 6 - p < f → (∀ j, j < p → S 26 0 j = -4) → ∃ S', l_X4_lay_2 K f S t (nI p) = K S' t ∧ Same [(26, 0)] S S' ∧ ∀ j, j < 6 → S' 26 0 j = -4 := by
  intro f
  induction f with
  | zero => intro p S _ h; exact absurd h (by omega)
  | succ f ih =>
    intro p S hp hf h
    rw [show l_X4_lay_2 K (f + 1) = b_X4_lay_2 (l_X4_lay_2 K f) K from rfl]
    unfold b_X4_lay_2
    by_cases e : p = 6
    · subst e
      rw [if_pos (show (6 : Int32) ≤ nI 6 from by decide)]
      exact ⟨S, rfl, Same.rf, h⟩
    · rw [if_neg (show ¬ (6 : Int32) ≤ nI p from nI_ge (b := 6) (show p < 6 by omega) (by decide)), gd_t (ix_nI (show p < 6 by omega) (by decide)), lt_, lt_, nI_clamp (show p < 2 ^ 31 by omega), nI_1]
      obtain ⟨S', a1, a2, a3⟩ := ih (p + 1) (put S 26 0 p (-4)) (by omega) (by omega) (fun j hj => by
        rw [put_jj]
        by_cases z : j = p
        · rw [if_pos z]
        · rw [if_neg z]; exact h j (by omega))
      exact ⟨S', a1, (Same.rf.put (by decide)).tr a2, a3⟩
/-- lay() -/
theorem c_lay {g : Gr} (hg : g.1 ≤ 160) (hw : wfG g) {rt : Nat → Bool} {c k top : Nat} (hc : c < 20) {sy : Nat → Nat} (hk : k ≤ 12) (hsy : ∀ i, i < k → sy i ≤ 7 ∧ pend sy i ≠ []) (ht : top < g.1) (t : Int32) {S : St} (hM : McE g rt c k sy S) (h4 : S 5 0 4 = nI top) : ∃ S', f_X4_lay t S = some (if (mat g rt sy k top (tbt (nns sy k) t)).1 = true then -1 else nI (mat g rt sy k top (tbt (nns sy k) t)).2.1, S') ∧ Same exL S S' ∧ ((mat g rt sy k top (tbt (nns sy k) t)).1 = true → ∀ p, p < 6 → S' 26 0 p = (mat g rt sy k top (tbt (nns sy k) t)).2.2 p) := by
  unfold f_X4_lay
  obtain ⟨S1, a1, a2, a3⟩ := c_lay2 (fun S x1 => gd (ix 0 13) (lt_ (put S 25 0 (0 : Int32).toNatClampNeg (S 5 0 4)) (fun S_6 => l_X4_lay_39 5000 S_6 x1 1 0 0))) t 5000 0 S (by omega) (by omega) (fun j hj => absurd hj (by omega))
  have a1 : l_X4_lay_2 (fun S x1 => gd (ix 0 13) (lt_ (put S 25 0 (0 : Int32).toNatClampNeg (S 5 0 4)) (fun S_6 => l_X4_lay_39 5000 S_6 x1 1 0 0))) 5000 S t 0 = _ := a1
  rw [a1, gd_t (show ix 0 13 = true from by decide), lt_, show (0 : Int32).toNatClampNeg = 0 from by decide, a2 5 0 (by decide), h4]
  have s1 : Same exL S (put S1 25 0 0 (nI top)) := (a2.mono (by decide)).put (by decide)
  obtain ⟨S', b1, b2, b3⟩ := c_layl hg hw hc hk hsy t k 5000 0 [top] (fun _ => -4) (put S1 25 0 0 (nI top)) (by omega) (by omega) (hM.same s1) rfl (fun x hm => by
    have : x = top := by simpa using hm
    omega) ⟨by rw [put_jj]; simp, trivial⟩ (fun p hp => by rw [put_o rfl]; exact a3 p hp)
  exact ⟨S', b1, s1.tr b2, b3⟩
