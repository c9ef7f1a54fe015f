/-! matches() and match() of both sides -/
def exK : List (Nat × Nat) := [(25, 0), (26, 0), (5, 0)]
theorem McE.same2 {g : Gr} {rt : Nat → Bool} {c k : Nat} {sy : Nat → Nat} {S S' : St} (h : McE g rt c k sy S) (s : Same exK S S') (h3 : S' 5 0 3 = S 5 0 3) : McE g rt c k sy S' := by
  unfold McE
  rw [s 9 0 (by decide), s 10 0 (by decide), s 11 0 (by decide), s 14 0 (by decide), s 8 c (by simp [exK]), s 36 c (by simp [exK]), h3]
  exact h
theorem McA.same2 {g : Gr} {rt : Nat → Bool} {c top : Nat} {q : Cel} {S S' : St} (h : McA g rt c top q S) (s : Same exK S S') (h3 : S' 5 0 3 = S 5 0 3) (h4 : S' 5 0 4 = S 5 0 4) : McA g rt c top q S' := by
  obtain ⟨a1, a2, a3, a4, a5, a6, a7⟩ := h
  exact ⟨a1, a2, a3, a4, a5, a6.same2 s h3, by rw [h4]; exact a7⟩
def NxN (g : Gr) (rt : Nat → Bool) (top : Nat) (q : Cel) (t : Nat) (S S' : St) : Prop := Same exK S S' ∧ S' 5 0 3 = S 5 0 3 ∧ S' 5 0 4 = S 5 0 4 ∧ S' 5 0 5 = nI (tns q) ∧ ∀ u, t ≤ u → u < tns q → ft g rt q top u = false
def NxY (g : Gr) (rt : Nat → Bool) (top : Nat) (q : Cel) (t u : Nat) (S S' : St) : Prop := Same exK S S' ∧ S' 5 0 3 = S 5 0 3 ∧ S' 5 0 4 = S 5 0 4 ∧ S' 5 0 5 = nI (u + 1) ∧ t ≤ u ∧ u < tns q ∧ ft g rt q top u = true ∧ (∀ w, t ≤ w → w < u → ft g rt q top w = false) ∧ ∀ p, p < 6 → S' 26 0 p = pn g rt q top u p
theorem c_next {g : Gr} {rt : Nat → Bool} {c top : Nat} {q : Cel} {t : Nat} {S : St} (hA : McA g rt c top q S) (ht : t ≤ tns q) (h5 : S 5 0 5 = nI t) : (∃ S', f_X4_next S = some (0, S') ∧ NxN g rt top q t S S') ∨ (∃ S' u, f_X4_next S = some (1, S') ∧ NxY g rt top q t u S S') := by
  obtain ⟨hg, hw, hc, ho, htp, hM, h4⟩ := id hA
  have h32 := tns_le ho
  have e : f_X4_next S = l_X4_next_24 5000 S (nI (tns q)) (nI t) := by
    unfold f_X4_next
    rw [hM.2.2.2.2.2, if_neg (nI_pos (show c < 2 ^ 31 by omega)), gd_t (ix_nI hc (by decide)), if_neg (nI_pos (show c < 2 ^ 31 by omega)), gd_t (ix_nI hc (by decide)), nI_clamp (show c < 2 ^ 31 by omega), hM.2.2.2.1, shl_i _ (by have := nns_5 ho; omega), lt_, lt_, h5]
    rfl
  rw [e]
  rcases c_nextl (g := g) (rt := rt) (c := c) (top := top) (q := q) 5000 t S ht (by omega) hA with ⟨S', b1, b2⟩ | ⟨S', u, b1, b2⟩
  · exact Or.inl ⟨S', b1, b2⟩
  · exact Or.inr ⟨S', u, b1, b2⟩
theorem ctB_skip {p : Nat → Bool} {t : Nat} : ∀ {u : Nat}, t ≤ u → (∀ w, t ≤ w → w < u → p w = false) → ctB p u = ctB p t
  | 0, h, _ => by
    have e : t = 0 := by omega
    rw [e]
  | u + 1, h, hw => by
    by_cases e : t = u + 1
    · rw [e]
    · rw [ctB, ctB_skip (t := t) (u := u) (by omega) (fun w h1 h2 => hw w h1 (by omega)), hw u (by omega) (by omega)]
      rfl
theorem c_cntl {g : Gr} {rt : Nat → Bool} {c top : Nat} {q : Cel} : ∀ (f t : Nat) (S : St), t ≤ tns q → tns q - t < f → McA g rt c top q S → S 5 0 5 = nI t → ∃ S', l_X4_countRest_2 f S (nI (ctB (ft g rt q top) t)) = some (nI (ctB (ft g rt q top) (tns q)), S') ∧ Same exK S S' := by
  intro f
  induction f with
  | zero => intro t S _ h; exact absurd h (by omega)
  | succ f ih =>
    intro t S ht hf hA h5
    have h32 := tns_le hA.2.2.2.1
    have hb := ctB_le (ft g rt q top) t
    rw [show l_X4_countRest_2 (f + 1) = b_X4_countRest_2 (l_X4_countRest_2 f) from rfl]
    unfold b_X4_countRest_2
    rw [if_neg (show ¬ (4096 : Int32) ≤ nI (ctB (ft g rt q top) t) from nI_ge (b := 4096) (by omega) (by decide))]
    rcases c_next hA ht h5 with ⟨S1, a1, a2⟩ | ⟨S1, u, a1, a2, a3, a4, a5, a6, a7, a8, a9, a10⟩
    · rw [bi_e a1, if_pos rfl, ctB_skip (u := tns q) ht a2.2.2.2.2]
      exact ⟨S1, rfl, a2.1⟩
    · rw [bi_e a1, if_neg (by decide), lt_, nI_1]
      obtain ⟨S', b1, b2⟩ := ih (u + 1) S1 (by omega) (by omega) (hA.same2 a2 a3 a4) a5
      rw [ctB, a8, ctB_skip (u := u) a6 a9] at b1
      exact ⟨S', b1, a2.tr b2⟩
/-- what a call over graph and library looks at -/
def EvC (g : Gr) (m : Nat) (ov : Nat → Nat) (c : Nat) (lib : Nat → Cel) (th : Nat → Bool) (S : St) : Prop := g.1 ≤ 160 ∧ wfG g ∧ CG g S ∧ EM g m ov S ∧ WfL c lib ∧ PlC c lib th S
def EvM (g : Gr) (m : Nat) (ov : Nat → Nat) (c : Nat) (lib : Nat → Cel) (th : Nat → Bool) (T : St) : Prop := g.1 ≤ 160 ∧ wfG g ∧ MG g T ∧ EM g m ov T ∧ WfL c lib ∧ PlM c lib th T
theorem c_isAlive {g : Gr} {m : Nat} {ov : Nat → Nat} {S : St} (hg : g.1 ≤ 160) (hc : CG g S) (hE : EM g m ov S) (x : Int32) : f_X7_isAlive x S = some (b01 (inR x g.1 && lvs g m ov x.toNatClampNeg), S) := by
  unfold f_X7_isAlive j_X7_isAlive_21 j_X7_isAlive_22
  rw [bi_e (c_vhas hg hc.1 x)]
  cases hin : inR x g.1 with
  | false => rw [if_pos (show b01 false = 0 from rfl)]; rfl
  | true =>
    obtain ⟨a, ha, rfl⟩ := inR_t hin (by omega)
    rw [if_neg (show ¬ b01 true = 0 from by decide), gd_t (ix_nI (show a < 160 by omega) (by decide)), lt_, nI_clamp (show a < 2 ^ 31 by omega), (hE a ha).2.1]
    cases lvs g m ov a <;> rfl
theorem EvC.mc {g : Gr} {m : Nat} {ov : Nat → Nat} {c : Nat} {lib : Nat → Cel} {th : Nat → Bool} {S : St} (h : EvC g m ov c lib th S) {d v : Nat} (hd : d < c) (hv : v < g.1) {S' : St} (s : Same exK S S') (h3 : S' 5 0 3 = nI d) (h4 : S' 5 0 4 = nI v) : McA g (rts g m ov) d v (lib d) S' := by
  obtain ⟨h1, h2, h3', h4', h5, h6⟩ := h
  obtain ⟨l1, l2, l3, l4⟩ := (h6.2 d hd).1
  refine ⟨h1, h2, by have := h5.1; omega, h5.2 d hd, hv, ⟨?_, ?_, ?_, ?_, ?_, h3⟩, h4⟩
  · rw [s 9 0 (by decide), s 10 0 (by decide), s 11 0 (by decide)]; exact h3'.2
  · rw [s 14 0 (by decide)]; exact fun v hv => (h4' v hv).2.2
  · rw [s 8 d (by simp [exK])]; exact l1
  · rw [s 8 d (by simp [exK])]; exact l2
  · rw [s 36 d (by simp [exK])]; exact l4
theorem c_begin {d : Nat} {x : Int32} {S : St} : ∃ S', f_X4_begin d x S = some S' ∧ Same [(5, 0)] S S' ∧ S' 5 0 3 = nI d ∧ S' 5 0 4 = x ∧ S' 5 0 5 = 0 := by
  unfold f_X4_begin
  rw [lt_, lt_, lt_]
  exact ⟨_, rfl, ((Same.rf.put (by decide)).put (by decide)).put (by decide), by rw [put_j (by decide), put_j (by decide), put_self], by rw [put_j (by decide), put_self], put_self _ _ _ _ _⟩
/-- is a cell there and a vertex alive -/
def cnM (g : Gr) (m : Nat) (ov : Nat → Nat) (c : Nat) (th : Nat → Bool) (x y : Int32) : Bool := (inR x c && th x.toNatClampNeg) && (inR y g.1 && lvs g m ov y.toNatClampNeg)
theorem X_matches {g : Gr} {m : Nat} {ov : Nat → Nat} {c : Nat} {lib : Nat → Cel} {th : Nat → Bool} {S : St} (h : EvC g m ov c lib th S) (x y : Int32) : ∃ S', f_X8_matches x y S = some (if cnM g m ov c th x y = true then nI (ctB (ft g (rts g m ov) (lib x.toNatClampNeg) y.toNatClampNeg) (tns (lib x.toNatClampNeg))) else -1, S') ∧ Same exK S S' := by
  obtain ⟨h1, h2, h3, h4, h5, h6⟩ := id h
  unfold f_X8_matches j_X8_matches_22 cnM
  rw [bi_e (c_has h5.1 h6 x)]
  cases hq : (inR x c && th x.toNatClampNeg) with
  | false => rw [if_pos (show b01 false = 0 from rfl)]; exact ⟨S, rfl, Same.rf⟩
  | true =>
    rw [if_neg (show ¬ b01 true = 0 from by decide), bi_e (c_isAlive h1 h3 h4 y)]
    cases hr : (inR y g.1 && lvs g m ov y.toNatClampNeg) with
    | false => rw [if_pos (show b01 false = 0 from rfl)]; exact ⟨S, rfl, Same.rf⟩
    | true =>
      obtain ⟨d, hd, rfl⟩ := inR_t (Bool.and_eq_true_iff.mp hq).1 (by have := h5.1; omega)
      obtain ⟨v, hv, rfl⟩ := inR_t (Bool.and_eq_true_iff.mp hr).1 (by omega)
      have hd2 := h5.1
      obtain ⟨S1, a1, a2, a3, a4, a5⟩ := c_begin (d := d) (x := nI v) (S := S)
      rw [if_neg (show ¬ b01 true = 0 from by decide), gd_t (ix_nI (show d < 20 by omega) (by decide)), nI_clamp (show d < 2 ^ 31 by omega), nI_clamp (show v < 2 ^ 31 by omega), bv_e a1]
      have hA := h.mc hd hv (a2.mono (by decide)) a3 a4
      obtain ⟨S', b1, b2⟩ := c_cntl 5000 0 S1 (by omega) (by have := tns_le hA.2.2.2.1; omega) hA a5
      have b1 : f_X4_countRest S1 = _ := b1
      rw [bi_e b1]
      exact ⟨S', rfl, (a2.mono (by decide)).tr b2⟩
theorem m_canMatch {g : Gr} {m : Nat} {ov : Nat → Nat} {c : Nat} {lib : Nat → Cel} {th : Nat → Bool} {T : St} (h : EvM g m ov c lib th T) (x y : Int32) : f_X9_canMatch x y T = some (b01 (cnM g m ov c th x y), T) := by
  obtain ⟨h1, h2, h3, h4, h5, h6⟩ := id h
  unfold f_X9_canMatch j_X9_canMatch_29 j_X9_canMatch_30 cnM
  rw [bi_e (m_isCell h5.1 h6 x)]
  cases hq : (inR x c && th x.toNatClampNeg) with
  | false => rw [if_pos (show b01 false = 0 from rfl)]; rfl
  | true =>
    rw [if_neg (show ¬ b01 true = 0 from by decide), bi_e (m_isVertex h1 h3.1 y)]
    cases hin : inR y g.1 with
    | false => rw [if_pos (show b01 false = 0 from rfl)]; rfl
    | true =>
      obtain ⟨a, ha, rfl⟩ := inR_t hin (by omega)
      rw [if_neg (show ¬ b01 true = 0 from by decide), gd_t (ix_nI (show a < 200 by omega) (by decide)), lt_, nI_clamp (show a < 2 ^ 31 by omega), (h4 a ha).2.1]
      cases lvs g m ov a <;> rfl
/-- all that the reference's search needs -/
def MrA (g : Gr) (rt : Nat → Bool) (c top : Nat) (q : Cel) (T : St) : Prop := g.1 ≤ 160 ∧ wfG g ∧ c < 20 ∧ okCel q ∧ top < g.1 ∧ MrE g rt c q.2.2.1 q.2.2.2 T
theorem EvM.mr {g : Gr} {m : Nat} {ov : Nat → Nat} {c : Nat} {lib : Nat → Cel} {th : Nat → Bool} {T : St} (h : EvM g m ov c lib th T) {d v : Nat} (hd : d < c) (hv : v < g.1) : MrA g (rts g m ov) d v (lib d) T := by
  obtain ⟨h1, h2, h3', h4', h5, h6⟩ := h
  obtain ⟨l1, l2, l3, l4, l5⟩ := h6.2 d hd
  exact ⟨h1, h2, by have := h5.1; omega, h5.2 d hd, hv, h3'.2, fun v hv => (h4' v hv).2.2, l4, l1⟩
theorem MrA.same {g : Gr} {rt : Nat → Bool} {c top : Nat} {q : Cel} {T T' : St} (h : MrA g rt c top q T) (s : Same exF T T') : MrA g rt c top q T' := by
  obtain ⟨a1, a2, a3, a4, a5, a6⟩ := h
  exact ⟨a1, a2, a3, a4, a5, a6.same s⟩
theorem MrA.fit {g : Gr} {rt : Nat → Bool} {c top : Nat} {q : Cel} {T : St} (h : MrA g rt c top q T) (t : Nat) : ∃ T', f_X9_fits (nI c) (nI top) (nI t) T = some (b01 (ft g rt q top t), T') ∧ Same exF T T' ∧ (ft g rt q top t = true → ∀ p, p < 6 → T' 29 0 p = pn g rt q top t p) := by
  obtain ⟨a1, a2, a3, a4, a5, a6⟩ := h
  exact m_fits a1 a2 a3 a4.2.1 a4.2.2.1 a4.2.2.2.1 a5 (nI t) a6
/-- the bound of the turns, as the reference reads it -/
theorem MrA.bnd {g : Gr} {rt : Nat → Bool} {c top : Nat} {q : Cel} {T : St} (h : MrA g rt c top q T) : ix (nI c) 20 = true ∧ (nI c).toNatClampNeg = c ∧ ((1 : Int32) <<< (T 20 0 c &&& 31)) = nI (tns q) := by
  obtain ⟨a1, a2, a3, a4, a5, a6⟩ := h
  refine ⟨ix_nI a3 (by decide), nI_clamp (by omega), ?_⟩
  rw [a6.2.2.2.1, shl_i _ (by have := nns_5 a4; omega)]
  rfl
theorem m_mtsl {g : Gr} {rt : Nat → Bool} {c top : Nat} {q : Cel} : ∀ (f t : Nat) (T : St), t ≤ tns q → tns q - t < f → MrA g rt c top q T → ∃ T', l_X9_matches_16 f T (nI c) (nI top) (nI (ctB (ft g rt q top) t)) (nI t) = some (nI (ctB (ft g rt q top) (tns q)), T') ∧ Same exF T T' := by
  intro f
  induction f with
  | zero => intro t T _ h; exact absurd h (by omega)
  | succ f ih =>
    intro t T ht hf hA
    have h32 := tns_le hA.2.2.2.1
    obtain ⟨e1, e2, e3⟩ := hA.bnd
    rw [show l_X9_matches_16 (f + 1) = b_X9_matches_16 (l_X9_matches_16 f) from rfl]
    unfold b_X9_matches_16 j_X9_matches_46
    rw [gd_t e1, lt_, e2, e3]
    by_cases e : t = tns q
    · subst e
      rw [if_pos (nI_le (Nat.le_refl _) (by omega))]
      exact ⟨T, rfl, Same.rf⟩
    · obtain ⟨T1, a1, a2, a3⟩ := hA.fit t
      obtain ⟨T', b1, b2⟩ := ih (t + 1) T1 (by omega) (by omega) (hA.same a2)
      rw [ctB] at b1
      rw [if_neg (nI_ge (show t < tns q by omega) (by omega)), bi_e a1]
      cases hq : ft g rt q top t with
      | true =>
        rw [hq] at b1
        rw [if_neg (show ¬ b01 true = 0 from by decide), lt_, lt_, nI_1, nI_1]
        exact ⟨T', b1, a2.tr b2⟩
      | false =>
        rw [hq] at b1
        rw [if_pos (show b01 false = 0 from rfl), lt_, lt_, nI_1, show nI (ctB (ft g rt q top) t) + 0 = nI (ctB (ft g rt q top) t) from by rw [show (0 : Int32) = nI 0 from rfl, nI_add]; rfl]
        exact ⟨T', b1, a2.tr b2⟩
theorem M_matches {g : Gr} {m : Nat} {ov : Nat → Nat} {c : Nat} {lib : Nat → Cel} {th : Nat → Bool} {T : St} (h : EvM g m ov c lib th T) (x y : Int32) : ∃ T', f_X9_matches x y T = some (if cnM g m ov c th x y = true then nI (ctB (ft g (rts g m ov) (lib x.toNatClampNeg) y.toNatClampNeg) (tns (lib x.toNatClampNeg))) else -1, T') ∧ Same exF T T' := by
  obtain ⟨h1, h2, h3, h4, h5, h6⟩ := id h
  unfold f_X9_matches
  rw [bi_e (m_canMatch h x y)]
  cases hq : cnM g m ov c th x y with
  | false => rw [if_pos (show b01 false = 0 from rfl)]; exact ⟨T, rfl, Same.rf⟩
  | true =>
    obtain ⟨d, hd, rfl⟩ := inR_t (Bool.and_eq_true_iff.mp (Bool.and_eq_true_iff.mp hq).1).1 (by have := h5.1; omega)
    obtain ⟨v, hv, rfl⟩ := inR_t (Bool.and_eq_true_iff.mp (Bool.and_eq_true_iff.mp hq).2).1 (by omega)
    have hd2 := h5.1
    have hA := h.mr hd hv
    obtain ⟨T', b1, b2⟩ := m_mtsl 5000 0 T (by omega) (by have := tns_le hA.2.2.2.1; omega) hA
    rw [if_neg (show ¬ b01 true = 0 from by decide), nI_clamp (show d < 2 ^ 31 by omega), nI_clamp (show v < 2 ^ 31 by omega)]
    exact ⟨T', b1, b2⟩
