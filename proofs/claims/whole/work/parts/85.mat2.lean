/-! match() of both sides -/
def ftk (g : Gr) (rt : Nat → Bool) (q : Cel) (top : Nat) (k : Int32) (t : Nat) : Bool := ft g rt q top t && decide (nI (ctB (ft g rt q top) t) = k)
def mkp (g : Gr) (rt : Nat → Bool) (q : Cel) (top : Nat) (k : Int32) (p : Nat) : Int32 := match gfind (ftk g rt q top k) (tns q) with
  | some t => pn g rt q top t p
  | none => -4
theorem ctB_mono {p : Nat → Bool} {a : Nat} : ∀ {b : Nat}, a ≤ b → ctB p a ≤ ctB p b
  | 0, h => by
    have e : a = 0 := by omega
    rw [e]; exact Nat.le_refl _
  | b + 1, h => by
    by_cases e : a = b + 1
    · rw [e]; exact Nat.le_refl _
    · have := ctB_mono (p := p) (a := a) (b := b) (by omega)
      rw [ctB]; omega
theorem ctB_uniq {p : Nat → Bool} {a b : Nat} (ha : p a = true) (hb : p b = true) (e : ctB p a = ctB p b) : a = b := by
  rcases Nat.lt_trichotomy a b with h | h | h
  · have h1 : ctB p (a + 1) ≤ ctB p b := ctB_mono h
    rw [ctB, ha] at h1
    simp at h1
    omega
  · exact h
  · have h1 : ctB p (b + 1) ≤ ctB p a := ctB_mono h
    rw [ctB, hb] at h1
    simp at h1
    omega
theorem ftk_some {g : Gr} {rt : Nat → Bool} {q : Cel} {top : Nat} {k : Int32} {u : Nat} (ho : okCel q) (hu : u < tns q) (h : ftk g rt q top k u = true) (p : Nat) : mkp g rt q top k p = pn g rt q top u p := by
  unfold mkp
  have h32 := tns_le ho
  rw [gfind_at hu h (fun w hw => ?_)]
  cases e : ftk g rt q top k w with
  | false => rfl
  | true =>
    unfold ftk at h e
    have h1 := Bool.and_eq_true_iff.mp h
    have h2 := Bool.and_eq_true_iff.mp e
    have h3 := of_decide_eq_true h1.2
    have h4 := of_decide_eq_true h2.2
    have b1 := ctB_le (ft g rt q top) u
    have b2 := ctB_le (ft g rt q top) w
    have := ctB_uniq h2.1 h1.1 ((nI_eq (by omega) (by omega)).mp (h4.trans h3.symm))
    omega
theorem c_skpl {g : Gr} {rt : Nat → Bool} {c top : Nat} {q : Cel} {kk : Nat} (hk : kk < 2 ^ 31) : ∀ (f t : Nat) (S : St), t ≤ tns q → tns q - t + 1 < f → McA g rt c top q S → S 5 0 5 = nI t → ctB (ft g rt q top) t ≤ kk + 1 → (ctB (ft g rt q top) t = kk + 1 → ∃ u, u < tns q ∧ ftk g rt q top (nI kk) u = true ∧ ∀ p, p < 6 → S 26 0 p = pn g rt q top u p) → ∃ r S', l_X4_skipTo_19 f S (nI kk) 1 (nI (ctB (ft g rt q top) t)) = some (r, S') ∧ Same exK S S' ∧ ((r = 0 ∧ gfind (ftk g rt q top (nI kk)) (tns q) = none) ∨ (r = 1 ∧ ∃ u, u < tns q ∧ ftk g rt q top (nI kk) u = true ∧ ∀ p, p < 6 → S' 26 0 p = pn g rt q top u p)) := by
  intro f
  induction f with
  | zero => intro t S _ h; exact absurd h (by omega)
  | succ f ih =>
    intro t S ht hf hA h5 hle hy
    have h32 := tns_le hA.2.2.2.1
    have hb := ctB_le (ft g rt q top) t
    rw [show l_X4_skipTo_19 (f + 1) = b_X4_skipTo_19 (l_X4_skipTo_19 f) from rfl]
    unfold b_X4_skipTo_19
    by_cases e : ctB (ft g rt q top) t = kk + 1
    · rw [e, if_pos (show nI kk < nI (kk + 1) from nI_lt (by omega) (by omega)), gd_t (show bz 1 = true from by decide)]
      exact ⟨1, S, rfl, Same.rf, Or.inr ⟨rfl, hy e⟩⟩
    · rw [if_neg (show ¬ nI kk < nI (ctB (ft g rt q top) t) from nI_nlt (by omega) hk), if_neg (show ¬ (1 : Int32) = 0 from by decide)]
      rcases c_next hA ht h5 with ⟨S1, a1, a2⟩ | ⟨S1, u, a1, a2, a3, a4, a5, a6, a7, a8, a9, a10⟩
      · rw [bi_e a1, lt_]
        obtain ⟨f, rfl⟩ : ∃ f', f = f' + 1 := ⟨f - 1, by omega⟩
        rw [show l_X4_skipTo_19 (f + 1) = b_X4_skipTo_19 (l_X4_skipTo_19 f) from rfl]
        unfold b_X4_skipTo_19
        rw [if_pos (show (0 : Int32) = 0 from rfl), gd_t (show bz 0 = true from by decide)]
        have e2 : ∀ z : Prop, [Decidable z] → (if z then some ((0 : Int32), S1) else some (0, S1)) = some (0, S1) := fun z _ => by split <;> rfl
        rw [e2]
        refine ⟨0, S1, rfl, a2.1, Or.inl ⟨rfl, gfind_none (fun w hw => ?_)⟩⟩
        cases hq : ftk g rt q top (nI kk) w with
        | false => rfl
        | true =>
          unfold ftk at hq
          have h1 := Bool.and_eq_true_iff.mp hq
          have h2 := of_decide_eq_true h1.2
          have b2 := ctB_le (ft g rt q top) w
          have h3 := (nI_eq (by omega) hk).mp h2
          have hwt : w < t := by
            by_cases z : w < t
            · exact z
            · have := a2.2.2.2.2 w (by omega) hw
              rw [this] at h1
              exact absurd h1.1 (by decide)
          have h4 : ctB (ft g rt q top) (w + 1) ≤ ctB (ft g rt q top) t := ctB_mono hwt
          rw [ctB, h1.1, h3] at h4
          simp at h4
          omega
      · have hcu : ctB (ft g rt q top) u = ctB (ft g rt q top) t := ctB_skip a6 a9
        have hc1 : ctB (ft g rt q top) (u + 1) = ctB (ft g rt q top) t + 1 := by rw [ctB, a8, hcu]; rfl
        rw [bi_e a1, lt_, nI_1, ← hc1]
        obtain ⟨r, S', b1, b2, b3⟩ := ih (u + 1) S1 (by omega) (by omega) (hA.same2 a2 a3 a4) a5 (by omega) (fun e3 => ⟨u, a7, by
          unfold ftk
          rw [a8, decide_eq_true (show nI (ctB (ft g rt q top) u) = nI kk by rw [hcu]; congr 1; omega)]
          rfl, a10⟩)
        exact ⟨r, S', b1, a2.tr b2, b3⟩
theorem c_skip0 {g : Gr} {rt : Nat → Bool} {top : Nat} {q : Cel} {S : St} (ho : okCel q) (k : Int32) (hk : k < 0 ∨ (4096 : Int32) ≤ k) : ∃ r S', j_X4_skipTo_15 S k = some (r, S') ∧ Same exK S S' ∧ ((r = 0 ∧ gfind (ftk g rt q top k) (tns q) = none) ∨ (r = 1 ∧ ∃ u, u < tns q ∧ ftk g rt q top k u = true ∧ ∀ p, p < 6 → S' 26 0 p = pn g rt q top u p)) := by
  have h32 := tns_le ho
  refine ⟨0, S, ?_, Same.rf, Or.inl ⟨rfl, gfind_none (fun w hw => ?_)⟩⟩
  · unfold j_X4_skipTo_15 j_X4_skipTo_16
    rw [show l_X4_skipTo_19 5000 = b_X4_skipTo_19 (l_X4_skipTo_19 4999) from rfl]
    unfold b_X4_skipTo_19
    rw [if_pos (show (0 : Int32) = 0 from rfl), gd_t (show bz 0 = true from by decide)]
    split <;> rfl
  · unfold ftk
    have b2 := ctB_le (ft g rt q top) w
    rw [decide_eq_false (show ¬ nI (ctB (ft g rt q top) w) = k from fun e => by
      rw [← e] at hk
      rcases hk with h | h
      · exact absurd h (nI_pos (by omega))
      · exact absurd h (nI_ge (b := 4096) (by omega) (by decide)))]
    exact Bool.and_false _
theorem c_skipTo {g : Gr} {rt : Nat → Bool} {c top : Nat} {q : Cel} {S : St} (hA : McA g rt c top q S) (h5 : S 5 0 5 = 0) (k : Int32) : ∃ r S', f_X4_skipTo k S = some (r, S') ∧ Same exK S S' ∧ ((r = 0 ∧ gfind (ftk g rt q top k) (tns q) = none) ∨ (r = 1 ∧ ∃ u, u < tns q ∧ ftk g rt q top k u = true ∧ ∀ p, p < 6 → S' 26 0 p = pn g rt q top u p)) := by
  have h32 := tns_le hA.2.2.2.1
  unfold f_X4_skipTo
  by_cases hk : k < 0
  · rw [if_pos hk]
    exact c_skip0 hA.2.2.2.1 k (Or.inl hk)
  · rw [if_neg hk]
    by_cases hk2 : (4096 : Int32) ≤ k
    · rw [if_pos hk2]
      exact c_skip0 hA.2.2.2.1 k (Or.inr hk2)
    · rw [if_neg hk2]
      obtain ⟨kk, h1, rfl⟩ := nI_of hk
      unfold j_X4_skipTo_16
      exact c_skpl h1 5000 0 S (by omega) (by omega) hA h5 (by simp [ctB]) (fun e => by simp [ctB] at e)
def pinR (p : Int32) : Bool := inR p 6
theorem X_match {g : Gr} {m : Nat} {ov : Nat → Nat} {c : Nat} {lib : Nat → Cel} {th : Nat → Bool} {S : St} (h : EvC g m ov c lib th S) (x y k p : Int32) : ∃ S', f_X8_match x y k p S = some (if cnM g m ov c th x y = true ∧ inR p 6 = true then mkp g (rts g m ov) (lib x.toNatClampNeg) y.toNatClampNeg k p.toNatClampNeg else -1, S') ∧ Same exK S S' := by
  obtain ⟨h1, h2, h3, h4, h5, h6⟩ := id h
  unfold f_X8_match j_X8_match_34 j_X8_match_79 cnM
  rw [bi_e (c_has h5.1 h6 x)]
  cases hq : (inR x c && th x.toNatClampNeg) with
  | false => rw [if_pos (show b01 false = 0 from rfl), if_neg (by simp)]; exact ⟨S, rfl, Same.rf⟩
  | true =>
    rw [if_neg (show ¬ b01 true = 0 from by decide), bi_e (c_isAlive h1 h3 h4 y)]
    cases hr : (inR y g.1 && lvs g m ov y.toNatClampNeg) with
    | false => rw [if_pos (show b01 false = 0 from rfl), if_neg (by simp)]; exact ⟨S, rfl, Same.rf⟩
    | true =>
      obtain ⟨d, hd, rfl⟩ := inR_t (Bool.and_eq_true_iff.mp hq).1 (by have := h5.1; omega)
      obtain ⟨v, hv, rfl⟩ := inR_t (Bool.and_eq_true_iff.mp hr).1 (by omega)
      have hd2 := h5.1
      rw [if_neg (show ¬ b01 true = 0 from by decide)]
      have p0 : (p < 0) ↔ p.toInt < 0 := Eq.to_iff lt_0I
      have p6 : (p < 6) ↔ p.toInt < 6 := by rw [Int32.lt_iff_toInt_lt]; rfl
      by_cases hp0 : p < 0
      · rw [if_pos hp0, if_neg (fun q => by
          have := of_decide_eq_true q.2
          have := p0.mp hp0
          omega)]
        exact ⟨S, rfl, Same.rf⟩
      · rw [if_neg hp0]
        have i0 : ¬ p.toInt < 0 := fun q => hp0 (p0.mpr q)
        by_cases hp6 : p < 6
        · have hin : inR p 6 = true := decide_eq_true ⟨by omega, p6.mp hp6⟩
          obtain ⟨S1, a1, a2, a3, a4, a5⟩ := c_begin (d := d) (x := nI v) (S := S)
          rw [if_pos hp6, gd_t (ix_nI (show d < 20 by omega) (by decide)), nI_clamp (show d < 2 ^ 31 by omega), nI_clamp (show v < 2 ^ 31 by omega), bv_e a1, if_pos ⟨rfl, hin⟩]
          have hA := h.mc hd hv (a2.mono (by decide)) a3 a4
          obtain ⟨r, S', b1, b2, b3⟩ := c_skipTo hA a5 k
          rw [bi_e b1]
          rcases b3 with ⟨rfl, b4⟩ | ⟨rfl, u, b4, b5, b6⟩
          · rw [if_pos rfl]
            unfold mkp
            rw [b4]
            exact ⟨S', rfl, (a2.mono (by decide)).tr b2⟩
          · rw [if_neg (show ¬ (1 : Int32) = 0 from by decide), gd_t (show ix p 6 = true from hin), lt_, b6 _ (inR_lt hin), ftk_some hA.2.2.2.1 b4 b5]
            exact ⟨S', rfl, (a2.mono (by decide)).tr b2⟩
        · rw [if_neg hp6, if_neg (fun q => by
            have := of_decide_eq_true q.2
            exact hp6 (p6.mpr this.2))]
          exact ⟨S, rfl, Same.rf⟩
theorem m_matl {g : Gr} {rt : Nat → Bool} {c top : Nat} {q : Cel} {k p : Int32} (hp : inR p 6 = true) : ∀ (f t : Nat) (T : St), t ≤ tns q → tns q - t < f → MrA g rt c top q T → (∀ w, w < t → ftk g rt q top k w = false) → ∃ T', l_X9_match_30 f T (nI c) (nI top) k p (nI (ctB (ft g rt q top) t)) (nI t) = some (mkp g rt q top k p.toNatClampNeg, T') ∧ Same exF T T' := by
  intro f
  induction f with
  | zero => intro t T _ h; exact absurd h (by omega)
  | succ f ih =>
    intro t T ht hf hA hno
    have h32 := tns_le hA.2.2.2.1
    obtain ⟨e1, e2, e3⟩ := hA.bnd
    rw [show l_X9_match_30 (f + 1) = b_X9_match_30 (l_X9_match_30 f) from rfl]
    unfold b_X9_match_30 j_X9_match_71
    rw [gd_t e1, lt_, e2, e3]
    by_cases e : t = tns q
    · subst e
      rw [if_pos (nI_le (Nat.le_refl _) (by omega))]
      unfold mkp
      rw [gfind_none hno]
      exact ⟨T, rfl, Same.rf⟩
    · obtain ⟨T1, a1, a2, a3⟩ := hA.fit t
      rw [if_neg (nI_ge (show t < tns q by omega) (by omega)), bi_e a1]
      have go : ftk g rt q top k t = false → ∃ T', l_X9_match_30 f T1 (nI c) (nI top) k p (nI (ctB (ft g rt q top) (t + 1))) (nI (t + 1)) = some (mkp g rt q top k p.toNatClampNeg, T') ∧ Same exF T T' := fun hz => by
        obtain ⟨T', b1, b2⟩ := ih (t + 1) T1 (by omega) (by omega) (hA.same a2) (fun w hw => by
          by_cases z : w = t
          · rw [z]; exact hz
          · exact hno w (by omega))
        exact ⟨T', b1, a2.tr b2⟩
      cases hq : ft g rt q top t with
      | true =>
        rw [if_neg (show ¬ b01 true = 0 from by decide)]
        by_cases z : nI (ctB (ft g rt q top) t) = k
        · have hk : ftk g rt q top k t = true := by unfold ftk; rw [hq, decide_eq_true z]; rfl
          rw [if_pos z, gd_t (show ix p 6 = true from hp), lt_, a3 hq _ (inR_lt hp), ftk_some hA.2.2.2.1 (by omega) hk]
          exact ⟨T1, rfl, a2⟩
        · rw [if_neg z, lt_, lt_, nI_1, nI_1]
          have := go (by unfold ftk; rw [decide_eq_false z, Bool.and_false])
          rw [ctB, hq] at this
          exact this
      | false =>
        rw [if_pos (show b01 false = 0 from rfl), lt_, nI_1]
        have := go (by unfold ftk; rw [hq]; rfl)
        rw [ctB, hq] at this
        exact this
theorem f_in05 (p : Int32) (T : St) : f_X9_in p.toInt64 0 5 T = some (b01 (inR p 6), T) := by
  rw [f_in, i64_of, show (0 : Int64).toInt = 0 from by decide, show (5 : Int64).toInt = 5 from by decide]
  congr 3
  unfold inR
  exact decide_eq_decide.mpr (by omega)
theorem M_match {g : Gr} {m : Nat} {ov : Nat → Nat} {c : Nat} {lib : Nat → Cel} {th : Nat → Bool} {T : St} (h : EvM g m ov c lib th T) (x y k p : Int32) : ∃ T', f_X9_match x y k p T = some (if cnM g m ov c th x y = true ∧ inR p 6 = true then mkp g (rts g m ov) (lib x.toNatClampNeg) y.toNatClampNeg k p.toNatClampNeg else -1, T') ∧ Same exF T T' := by
  obtain ⟨h1, h2, h3, h4, h5, h6⟩ := id h
  unfold f_X9_match j_X9_match_22
  rw [bi_e (m_canMatch h x y)]
  cases hq : cnM g m ov c th x y with
  | false => rw [if_pos (show b01 false = 0 from rfl), if_neg (by simp)]; exact ⟨T, rfl, Same.rf⟩
  | true =>
    rw [if_neg (show ¬ b01 true = 0 from by decide), bi_e (f_in05 p T)]
    cases hp : inR p 6 with
    | false => rw [if_pos (show b01 false = 0 from rfl), if_neg (by simp)]; exact ⟨T, rfl, Same.rf⟩
    | true =>
      obtain ⟨d, hd, rfl⟩ := inR_t (Bool.and_eq_true_iff.mp (Bool.and_eq_true_iff.mp hq).1).1 (by have := h5.1; omega)
      obtain ⟨v, hv, rfl⟩ := inR_t (Bool.and_eq_true_iff.mp (Bool.and_eq_true_iff.mp hq).2).1 (by omega)
      have hd2 := h5.1
      have hA := h.mr hd hv
      obtain ⟨T', b1, b2⟩ := m_matl (k := k) hp 5000 0 T (by omega) (by have := tns_le hA.2.2.2.1; omega) hA (fun w hw => absurd hw (by omega))
      rw [if_neg (show ¬ b01 true = 0 from by decide), if_pos ⟨rfl, rfl⟩, nI_clamp (show d < 2 ^ 31 by omega), nI_clamp (show v < 2 ^ 31 by omega)]
      exact ⟨T', b1, b2⟩
