/-! The class: choose and make -/
def exC (t : Nat) : List (Nat × Nat) := [(27, t), (28, t), (29, t), (30, t), (25, 0), (26, 0), (5, 0)]
theorem exB_C (t : Nat) : ∀ q ∈ exB t, q ∈ exC t := by simp [exB, exC]
theorem exK_C (t : Nat) : ∀ q ∈ exK, q ∈ exC t := by simp [exK, exC]
theorem exC_E (t : Nat) : ∀ q ∈ exC t, q.1 ∉ ksE := by simp [exC, ksE]
theorem Cq.tf_skip {Q : Cq} {bs : Nat → Bst} {v d : Nat} {x : Bst} {t : Nat} : ∀ {u : Nat}, t ≤ u → (∀ w, t ≤ w → w < u → ft Q.g Q.rt (Q.lib d) v w = false) → Q.tf bs v d x u = Q.tf bs v d x t
  | 0, h, _ => by
    have e : t = 0 := by omega
    rw [e]
  | u + 1, h, hw => by
    by_cases e : t = u + 1
    · rw [e]
    · rw [Cq.tf, hw u (by omega) (by omega), if_neg (by decide)]
      exact Cq.tf_skip (by omega) (fun w h1 h2 => hw w h1 (by omega))
theorem c_ch52 {Q : Cq} {bs : Nat → Bst} {t v d : Nat} {x : Bst} (hv : v < Q.g.1) (hl : Q.lv v = true) (hd : d < Q.c) (K : St → Int32 → Int32 → Int32 → Option St) (wo : Int32) : ∀ (f t0 k : Nat) (S : St), t0 ≤ tns (Q.lib d) → tns (Q.lib d) - t0 < f → k ≤ t0 → Q.eC S → McA Q.g Q.rt d v (Q.lib d) S → S 5 0 5 = nI t0 → S 6 t 13 = Q.how → (∀ u, u < v → rB t S u (bs u)) → rB t S v (Q.tf bs v d x t0) → ∃ S', l_X1_choose_52 t K f S (nI v) wo (nI d) (nI k) = K S' (nI v) wo (nI d) ∧ Same (exC t) S S' ∧ rB t S' v (Q.tf bs v d x (tns (Q.lib d))) ∧ ∀ u, u ≠ v → eB t S S' u := by
  intro f
  induction f with
  | zero => intro t0 k S _ h; exact absurd h (by omega)
  | succ f ih =>
    intro t0 k S ht hf hk hE hA h5 hm hb hx
    have h32 := tns_le hA.2.2.2.1
    rw [show l_X1_choose_52 t K (f + 1) = b_X1_choose_52 t (l_X1_choose_52 t K f) K from rfl]
    unfold b_X1_choose_52
    rw [if_neg (show ¬ (4096 : Int32) ≤ nI k from nI_ge (b := 4096) (by omega) (by decide))]
    rcases c_next hA ht h5 with ⟨S1, a1, a2⟩ | ⟨S1, u, a1, a2, a3, a4, a5, a6, a7, a8, a9, a10⟩
    · have e1 : ∀ w, eB t S S1 w := fun w => eB.of (fun k hk => a2.1 k t (by rcases hk with rfl | rfl | rfl | rfl <;> simp [exK]))
      rw [bi_e a1, if_pos rfl]
      refine ⟨S1, rfl, a2.1.mono (exK_C t), ?_, fun w _ => e1 w⟩
      rw [Q.tf_skip ht a2.2.2.2.2]
      exact hx.eB (e1 v)
    · have e1 : ∀ w, eB t S S1 w := fun w => eB.of (fun k hk => a2 k t (by rcases hk with rfl | rfl | rfl | rfl <;> simp [exK]))
      have s1 : Same (exC t) S S1 := a2.mono (exK_C t)
      have hE1 := hE.same s1 (exC_E t)
      have hb1 : ∀ u, u < v → rB t S1 u (bs u) := fun u hu => (hb u hu).eB (e1 u)
      have hx1 : rB t S1 v (Q.tf bs v d x u) := by
        rw [Q.tf_skip a6 a9]; exact hx.eB (e1 v)
      have ho := hA.2.2.2.1
      obtain ⟨S2, b1, b2, b3, b4⟩ := c_weigh (Q := Q) (t := t) hE1 hv hd a10 (pn_ok hE.2.1 ho hv hl u) (by rw [a2 6 t (by simp [exK])]; exact hm) hb1 hx1
      rw [bi_e a1, if_neg (show ¬ (1 : Int32) = 0 from by decide), bv_e b1, lt_, nI_1]
      have s2 : Same (exC t) S1 S2 := b2.mono (exB_C t)
      have r5 : S2 5 0 = S1 5 0 := b2 5 0 (by simp [exB])
      have hx2 : rB t S2 v (Q.tf bs v d x (u + 1)) := by rw [Cq.tf, if_pos a8]; exact b3
      obtain ⟨S', c1, c2, c3, c4⟩ := ih (u + 1) (k + 1) S2 (by omega) (by omega) (by omega) (hE1.same s2 (exC_E t)) (by
          obtain ⟨m1, m2, m3, m4, m5, m6, m7⟩ := hA.same2 a2 a3 a4
          refine ⟨m1, m2, m3, m4, m5, ?_, by rw [r5]; exact m7⟩
          unfold McE
          rw [b2 9 0 (by simp [exB]), b2 10 0 (by simp [exB]), b2 11 0 (by simp [exB]), b2 14 0 (by simp [exB]), b2 8 d (by simp [exB]), b2 36 d (by simp [exB]), r5]
          exact m6) (by rw [r5]; exact a5) (by rw [b2 6 t (by simp [exB]), a2 6 t (by simp [exK])]; exact hm) (fun w hw => (hb1 w hw).eB (b4 w (by omega))) hx2
      exact ⟨S', c1, (s1.tr s2).tr c2, c3, fun w hw => ((e1 w).tr (b4 w hw)).tr (c4 w hw)⟩
theorem c_chl {Q : Cq} {bs : Nat → Bst} {t v : Nat} (hv : v < Q.g.1) (hl : Q.lv v = true) : ∀ (f d : Nat) (S : St), d ≤ Q.c → Q.c - d < f → Q.eC S → S 6 t 13 = Q.how → (∀ u, u < v → rB t S u (bs u)) → rB t S v (Q.cf bs v d) → ∃ S', l_X1_choose_2 t f S (nI v) Q.wo (nI d) = some S' ∧ Same (exC t) S S' ∧ rB t S' v (Q.cf bs v Q.c) ∧ ∀ u, u ≠ v → eB t S S' u := by
  intro f
  induction f with
  | zero => intro d S _ h; exact absurd h (by omega)
  | succ f ih =>
    intro d S hd hf hE hm hb hx
    obtain ⟨h1, h2, h3, h4, h5, h6⟩ := id hE
    have c20 := h5.1
    rw [show l_X1_choose_2 t (f + 1) = b_X1_choose_2 t (l_X1_choose_2 t f) from rfl]
    unfold b_X1_choose_2
    rw [h6.1]
    by_cases e : d = Q.c
    · rw [e, if_pos (nI_le (Nat.le_refl _) (by omega))]
      exact ⟨S, rfl, Same.rf, by rw [← e]; exact hx, fun u _ => eB.of (fun _ _ => rfl)⟩
    · have hlt : d < Q.c := by omega
      rw [if_neg (nI_ge hlt (by omega))]
      have hhas : (inR (nI d) Q.c && Q.th (nI d).toNatClampNeg) = Q.th d := by rw [inR_nI (by omega), nI_clamp (by omega), decide_eq_true hlt]; rfl
      by_cases hq : Q.th d = true ∧ ¬ nI d = Q.wo
      · obtain ⟨S1, a1, a2, a3, a4, a5⟩ := c_begin (d := d) (x := nI v) (S := S)
        rw [if_neg hq.2, bi_e (c_has h5.1 h6 (nI d)), hhas, hq.1, if_neg (show ¬ b01 true = 0 from by decide), gd_t (ix_nI (show d < 20 by omega) (by decide)), nI_clamp (show d < 2 ^ 31 by omega), bv_e a1]
        have s1 : Same (exC t) S S1 := a2.mono (by simp [exC])
        have e1 : ∀ w, eB t S S1 w := fun w => eB.of (fun k hk => a2 k t (by rcases hk with rfl | rfl | rfl | rfl <;> simp))
        have hA : McA Q.g Q.rt d v (Q.lib d) S1 := EvC.mc hE hlt hv (a2.mono (by decide)) a3 a4
        have t32 := tns_le hA.2.2.2.1
        obtain ⟨S2, b1, b2, b3, b4⟩ := c_ch52 (Q := Q) (bs := bs) (t := t) (x := Q.cf bs v d) hv hl hlt (fun S x1 x2 x3 => j_X1_choose_82 t (l_X1_choose_2 t f) S x1 x2 x3) Q.wo 5000 0 0 S1 (by omega) (by omega) (by omega) (hE.same s1 (exC_E t)) hA a5 (by rw [a2 6 t (by simp)]; exact hm) (fun u hu => (hb u hu).eB (e1 u)) (hx.eB (e1 v))
        have b1 : l_X1_choose_52 t _ 5000 S1 (nI v) Q.wo (nI d) 0 = _ := b1
        rw [b1]
        unfold j_X1_choose_82
        rw [lt_, nI_1]
        have s2 := s1.tr b2
        obtain ⟨S', c1, c2, c3, c4⟩ := ih (d + 1) S2 (by omega) (by omega) (hE.same s2 (exC_E t)) (by rw [s2 6 t (by simp [exC])]; exact hm) (fun u hu => ((hb u hu).eB (e1 u)).eB (b4 u (by omega))) (by rw [Cq.cf, if_pos hq]; exact b3)
        exact ⟨S', c1, s2.tr c2, c3, fun w hw => ((e1 w).tr (b4 w hw)).tr (c4 w hw)⟩
      · have go := ih (d + 1) S (by omega) (by omega) hE hm hb (by rw [Cq.cf, if_neg hq]; exact hx)
        unfold j_X1_choose_82
        by_cases z : nI d = Q.wo
        · rw [if_pos z, lt_, nI_1]; exact go
        · have hf : Q.th d = false := by
            cases hth : Q.th d with
            | false => rfl
            | true => exact absurd ⟨hth, z⟩ hq
          rw [if_neg z, bi_e (c_has h5.1 h6 (nI d)), hhas, hf, if_pos (show b01 false = 0 from rfl), lt_, nI_1]
          exact go
def Cq.isBad (Q : Cq) (u : Nat) : Bool := Q.rt u && ((Q.b1 (Q.bs u) u).1 == -4)
theorem rts_lv {g : Gr} {m : Nat} {ov : Nat → Nat} {v : Nat} (h : rts g m ov v = true) : lvs g m ov v = true ∧ (g.2 v).1 ≠ 0 := by
  unfold rts at h
  have h1 := Bool.and_eq_true_iff.mp h
  refine ⟨h1.1, fun e => ?_⟩
  have := (Bool.and_eq_true_iff.mp h1.2).1
  rw [e] at this
  exact absurd this (by decide)
/-- one vertex -/
theorem c_mk1 {Q : Cq} {t v : Nat} {S : St} (hv : v < Q.g.1) (hE : Q.eC S) (hm : S 6 t 13 = Q.how) (hb : ∀ u, u < v → rB t S u (Q.bs v u)) (kb : St → Int32 → Int32 → Option (Int32 × St)) : ∃ S', b_X1_make_7 t kb S Q.wo (nI v) = (if Q.isBad v = true then some (nI v, S') else kb S' Q.wo (nI (v + 1))) ∧ Same (exC t) S S' ∧ ∀ u, u < v + 1 → rB t S' u (Q.bs (v + 1) u) := by
  obtain ⟨h1, h2, h3, h4, h5, h6⟩ := id hE
  have v160 : v < 160 := by omega
  obtain ⟨u1, u2, u3⟩ := h4 v hv
  have hix := ix_nI v160 (by decide)
  have hcl : (nI v).toNatClampNeg = v := nI_clamp (by omega)
  have e0 : (nI (Q.g.2 v).1 = 0) ↔ ((Q.g.2 v).1 = 0) := Eq.to_iff (nI_inj (b := 0) (by have := (h2 v hv).1; omega) (by decide))
  unfold b_X1_make_7
  rw [h3.1, if_neg (nI_ge hv (by omega)), gd_t hix, lt_, gd_t hix, lt_, gd_t hix, lt_, gd_t hix, lt_, hcl]
  generalize hS1 : put (put (put S 29 t v (-4)) 27 t v 0) 28 t v 0 = S1
  have s1 : Same (exC t) S S1 := by rw [← hS1]; exact ((Same.rf.put (by simp [exC])).put (by simp [exC])).put (by simp [exC])
  have q29 : ∀ u, S1 29 t u = if u = v then -4 else S 29 t u := fun u => by rw [← hS1, put_ne (by omega), put_ne (by omega), put_jj]
  have q27 : ∀ u, S1 27 t u = if u = v then 0 else S 27 t u := fun u => by rw [← hS1, put_ne (by omega), put_jj, put_ne (by omega)]
  have q28 : ∀ u, S1 28 t u = if u = v then 0 else S 28 t u := fun u => by rw [← hS1, put_jj, put_ne (by omega), put_ne (by omega)]
  have r30 : S1 30 t = S 30 t := by rw [← hS1, put_ne (by omega), put_ne (by omega), put_ne (by omega)]
  have e1 : ∀ w, w ≠ v → eB t S S1 w := fun w hw => ⟨by rw [q29, if_neg hw], by rw [q27, if_neg hw], by rw [q28, if_neg hw], fun p _ => by rw [r30]⟩
  have hx0 : rB t S1 v b0 := ⟨by rw [q29, if_pos rfl]; rfl, by rw [q27, if_pos rfl]; rfl, by rw [q28, if_pos rfl]; rfl, fun h => absurd rfl h⟩
  have hE1 := hE.same s1 (exC_E t)
  -- behind the choice
  have fin : ∀ S2, Same (exC t) S S2 → rB t S2 v (Q.b1 (Q.bs v) v) → (∀ w, w ≠ v → eB t S S2 w) → ∃ S', j_X1_make_70 t kb S2 Q.wo (nI v) = (if Q.isBad v = true then some (nI v, S') else kb S' Q.wo (nI (v + 1))) ∧ Same (exC t) S S' ∧ ∀ u, u < v + 1 → rB t S' u (Q.bs (v + 1) u) := by
    intro S2 s2 hx he
    have hR : S2 14 0 v = b01 (Q.rt v) := by rw [s2 14 0 (by simp [exC])]; exact u3
    refine ⟨S2, ?_, s2, fun u hu => ?_⟩
    · unfold j_X1_make_70 j_X1_make_95 Cq.isBad
      rw [gd_t hix, lt_, hcl, hR, gd_t hix, lt_, hx.1, lt_, nI_1]
      cases hr : Q.rt v with
      | false => rw [if_pos (show b01 false = 0 from rfl), Bool.false_and, if_neg (by decide)]
      | true =>
        rw [if_neg (show ¬ b01 true = 0 from by decide), Bool.true_and]
        by_cases y : (Q.b1 (Q.bs v) v).1 = -4
        · rw [if_pos y, if_pos (by simp [y])]
        · rw [if_neg y, if_neg (by simp [y])]
    · show rB t S2 u (if u = v then Q.b1 (Q.bs v) v else Q.bs v u)
      by_cases z : u = v
      · rw [if_pos z, z]; exact hx
      · rw [if_neg z]; exact (hb u (by omega)).eB (he u z)
  have r13 : S1 13 0 v = b01 (Q.lv v) := by rw [s1 13 0 (by simp [exC])]; exact u2
  have r9 : S1 9 0 v = nI (Q.g.2 v).1 := by rw [s1 9 0 (by simp [exC])]; exact (h3.2 v hv).1
  rw [r13]
  by_cases hq : Q.lv v = true ∧ (Q.g.2 v).1 ≠ 0
  · rw [hq.1, if_neg (show ¬ b01 true = 0 from by decide), gd_t hix, lt_, r9, if_neg (fun q => hq.2 (e0.mp q))]
    obtain ⟨S2, a1, a2, a3, a4⟩ := c_chl (Q := Q) (bs := Q.bs v) (t := t) hv hq.1 5000 0 S1 (by omega) (by have := h5.1; omega) hE1 (by rw [s1 6 t (by simp [exC])]; exact hm) (fun u hu => (hb u hu).eB (e1 u (by omega))) hx0
    have a1 : f_X1_choose t (nI v) Q.wo S1 = some S2 := a1
    rw [bv_e a1]
    exact fin S2 (s1.tr a2) (by unfold Cq.b1; rw [if_pos hq]; exact a3) (fun w hw => (e1 w hw).tr (a4 w hw))
  · have hb0 : Q.b1 (Q.bs v) v = b0 := if_neg hq
    have go := fin S1 s1 (by rw [hb0]; exact hx0) e1
    cases hlv : Q.lv v with
    | false => rw [if_pos (show b01 false = 0 from rfl)]; exact go
    | true =>
      have z : (Q.g.2 v).1 = 0 := by
        by_cases z : (Q.g.2 v).1 = 0
        · exact z
        · exact absurd ⟨hlv, z⟩ hq
      rw [if_neg (show ¬ b01 true = 0 from by decide), gd_t hix, lt_, r9, if_pos (e0.mpr z)]
      exact go
theorem c_mkl {Q : Cq} {t : Nat} : ∀ (f v : Nat) (S : St), v ≤ Q.g.1 → Q.g.1 - v < f → Q.eC S → S 6 t 13 = Q.how → (∀ u, u < v → rB t S u (Q.bs v u)) → (∀ u, u < v → Q.isBad u = false) → (∃ w S', l_X1_make_7 t f S Q.wo (nI v) = some (nI w, S') ∧ Same (exC t) S S' ∧ gfind Q.isBad Q.g.1 = some w) ∨ (∃ S', l_X1_make_7 t f S Q.wo (nI v) = bv (f_X1_listInstances t S') (fun q => some (-4, q)) ∧ Same (exC t) S S' ∧ gfind Q.isBad Q.g.1 = none ∧ ∀ u, u < Q.g.1 → rB t S' u (Q.bs Q.g.1 u)) := by
  intro f
  induction f with
  | zero => intro v S _ h; exact absurd h (by omega)
  | succ f ih =>
    intro v S hv hf hE hm hb hn
    rw [show l_X1_make_7 t (f + 1) = b_X1_make_7 t (l_X1_make_7 t f) from rfl]
    by_cases e : v = Q.g.1
    · refine Or.inr ⟨S, ?_, Same.rf, gfind_none (by rw [← e]; exact hn), by rw [← e]; exact hb⟩
      unfold b_X1_make_7
      have g160 : Q.g.1 ≤ 160 := hE.1
      rw [hE.2.2.1.1, e, if_pos (nI_le (Nat.le_refl _) (by omega))]
    · have hlt : v < Q.g.1 := by omega
      obtain ⟨S1, a1, a2, a3⟩ := c_mk1 (Q := Q) (t := t) hlt hE hm hb (l_X1_make_7 t f)
      rw [a1]
      cases hq : Q.isBad v with
      | true =>
        rw [if_pos rfl]
        exact Or.inl ⟨v, S1, rfl, a2, gfind_at hlt hq hn⟩
      | false =>
        rw [if_neg (by decide)]
        have hn1 : ∀ u, u < v + 1 → Q.isBad u = false := fun u hu => by
          by_cases z : u = v
          · rw [z]; exact hq
          · exact hn u (by omega)
        rcases ih (v + 1) S1 (by omega) (by omega) (hE.same a2 (exC_E t)) (by rw [a2 6 t (by simp [exC])]; exact hm) a3 hn1 with ⟨w, S', b1, b2, b3⟩ | ⟨S', b1, b2, b3, b4⟩
        · exact Or.inl ⟨w, S', b1, a2.tr b2, b3⟩
        · exact Or.inr ⟨S', b1, a2.tr b2, b3, b4⟩
/-- make() up to the listing -/
theorem c_make {Q : Cq} {t : Nat} {S : St} (hE : Q.eC S) : (∃ w S', f_X1_make t Q.how Q.wo S = some (nI w, S') ∧ Same ((6, t) :: exC t) S S' ∧ gfind Q.isBad Q.g.1 = some w) ∨ (∃ S', f_X1_make t Q.how Q.wo S = bv (f_X1_listInstances t S') (fun q => some (-4, q)) ∧ Same ((6, t) :: exC t) S S' ∧ S' 6 t 13 = Q.how ∧ gfind Q.isBad Q.g.1 = none ∧ ∀ u, u < Q.g.1 → rB t S' u (Q.bs Q.g.1 u)) := by
  unfold f_X1_make
  rw [lt_]
  have s1 : Same ((6, t) :: exC t) S (put S 6 t 13 Q.how) := Same.rf.put (by simp)
  have hE1 : Q.eC (put S 6 t 13 Q.how) := hE.same (ex := [(6, t)]) (Same.rf.put (by simp)) (by simp [ksE])
  have g160 : Q.g.1 ≤ 160 := hE.1
  rcases c_mkl (Q := Q) (t := t) 5000 0 (put S 6 t 13 Q.how) (by omega) (by omega) hE1 (put_self _ _ _ _ _) (fun u hu => absurd hu (by omega)) (fun u hu => absurd hu (by omega)) with ⟨w, S', b1, b2, b3⟩ | ⟨S', b1, b2, b3, b4⟩
  · exact Or.inl ⟨w, S', b1, s1.tr (b2.mono (fun q hq => List.mem_cons_of_mem _ hq)), b3⟩
  · exact Or.inr ⟨S', b1, s1.tr (b2.mono (fun q hq => List.mem_cons_of_mem _ hq)), by rw [b2 6 t (by simp [exC]), put_self], b3, b4⟩
