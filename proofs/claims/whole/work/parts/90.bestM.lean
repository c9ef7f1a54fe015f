/-! The reference: best() over all vertices -/
theorem m_tryl {Q : Cq} {bs : Nat → Bst} {b v d : Nat} {x : Bst} (hv : v < Q.g.1) (hl : Q.lv v = true) (hf : (Q.g.2 v).1 ≠ 0) (hd : d < Q.c) (hbb : b ≤ 200) : ∀ (f t : Nat) (T : St), t ≤ tns (Q.lib d) → tns (Q.lib d) - t < f → Q.eM T → (∀ u, u < v → rM Q T (b + u) u (bs u)) → rM Q T (b + v) v (Q.tf bs v d x t) → ∃ T', l_X9_tryAll_3 f T (nI b) (nI v) (nI d) Q.how (nI t) = some T' ∧ Same exQ T T' ∧ rM Q T' (b + v) v (Q.tf bs v d x (tns (Q.lib d))) ∧ ∀ y, y ≠ b + v → eM T T' y := by
  intro f
  induction f with
  | zero => intro t T _ h; exact absurd h (by omega)
  | succ f ih =>
    intro t T ht hf' hE hb hx
    obtain ⟨h1, h2, h3, h4, h5, h6⟩ := id hE
    have hA : MrA Q.g Q.rt d v (Q.lib d) T := EvM.mr hE hd hv
    have h32 := tns_le hA.2.2.2.1
    have d20 : d < 20 := hA.2.2.1
    obtain ⟨e1, e2, e3⟩ := hA.bnd
    rw [show l_X9_tryAll_3 (f + 1) = b_X9_tryAll_3 (l_X9_tryAll_3 f) from rfl]
    unfold b_X9_tryAll_3
    rw [gd_t e1, lt_, e2, e3]
    by_cases e : t = tns (Q.lib d)
    · rw [e, if_pos (nI_le (Nat.le_refl _) (by omega))]
      exact ⟨T, rfl, Same.rf, by rw [← e]; exact hx, fun _ _ => eM.rf⟩
    · obtain ⟨T1, a1, a2, a3⟩ := hA.fit t
      rw [if_neg (nI_ge (show t < tns (Q.lib d) by omega) (by omega)), bi_e a1]
      have s1 : Same exQ T T1 := a2.mono (by decide)
      have m1 : ∀ y, eM T T1 y := fun y => eM.of (fun k hk => a2 k 0 (by rcases hk with rfl | rfl | rfl | rfl | rfl <;> decide))
      have hE1 := hE.same s1
      have hb1 : ∀ u, u < v → rM Q T1 (b + u) u (bs u) := fun u hu => (hb u hu).eM (m1 _)
      have hx1 := hx.eM (m1 _)
      cases hq : ft Q.g Q.rt (Q.lib d) v t with
      | false =>
        rw [if_pos (show b01 false = 0 from rfl)]
        unfold j_X9_tryAll_362
        rw [lt_, nI_1]
        obtain ⟨T', b1, b2, b3, b4⟩ := ih (t + 1) T1 (by omega) (by omega) hE1 hb1 (by rw [Cq.tf, hq, if_neg (by decide)]; exact hx1)
        exact ⟨T', b1, s1.tr b2, b3, fun y hy => (m1 y).tr (b4 y hy)⟩
      | true =>
        obtain ⟨-, l1, l2, -, -⟩ := hE1.2.2.2.2.2.2 d hd
        rw [if_neg (show ¬ b01 true = 0 from by decide), gd_t e1, lt_, l1]
        have hP := a3 hq
        have hok := pn_ok h2 (m := Q.m) (ov := Q.ov) (rt := Q.rt) hA.2.2.2.1 hv hl t
        have hl44 := m_t44 (Q := Q) (bs := bs) (b := b) hE1 hv hbb hP hok hb1 (fun S x1 x2 x3 x4 x5 x6 x7 x8 => gd (ix x3 20) (lt_ (S 18 0 x3.toNatClampNeg) (fun v_37 => lt_ (x8 + v_37) (fun v_38 => if x4 = 0 then j_X9_tryAll_182 (l_X9_tryAll_3 f) S x1 x2 x3 x4 x5 x6 x7 v_38 x7 else j_X9_tryAll_182 (l_X9_tryAll_3 f) S x1 x2 x3 x4 x5 x6 x7 v_38 v_38)))) (nI v) (nI d) Q.how (nI t) (Q.lib d).1 5000 0 (by omega) (by omega)
        have hl44 : l_X9_tryAll_44 _ 5000 T1 (nI b) (nI v) (nI d) Q.how (nI t) 1 (Q.lib d).1 0 0 = _ := hl44
        rw [hl44, gd_t e1, lt_, e2, l2, lt_, Int32.add_comm]
        obtain ⟨T2, c1, c2, c3, c4, c5⟩ := m_248 (Q := Q) (b := b) (v := v) (by omega) d20 hf hP hx1 (l_X9_tryAll_3 f) (Q.can bs (pn Q.g Q.rt (Q.lib d) v t) 6) (Q.wf bs (pn Q.g Q.rt (Q.lib d) v t) (Q.lib d).1 6).1 ((Q.lib d).2.1 + (Q.wf bs (pn Q.g Q.rt (Q.lib d) v t) (Q.lib d).1 6).2) (nI t)
        rw [c1, nI_1]
        obtain ⟨T', b1, b2, b3, b4⟩ := ih (t + 1) T2 (by omega) (by omega) (hE1.same c2) (fun u hu => (hb1 u hu).eM (c5 _ (by omega))) (by rw [Cq.tf, hq, if_pos rfl]; exact c4)
        exact ⟨T', b1, (s1.tr c2).tr b2, b3, fun y hy => ((m1 y).tr (c5 y hy)).tr (b4 y hy)⟩
theorem m_tryAll {Q : Cq} {bs : Nat → Bst} {b v d : Nat} {x : Bst} (hv : v < Q.g.1) (hl : Q.lv v = true) (hf : (Q.g.2 v).1 ≠ 0) (hd : d < Q.c) (hbb : b ≤ 200) {T : St} (hE : Q.eM T) (hb : ∀ u, u < v → rM Q T (b + u) u (bs u)) (hx : rM Q T (b + v) v x) : ∃ T', f_X9_tryAll (nI b) (nI v) (nI d) Q.how T = some T' ∧ Same exQ T T' ∧ rM Q T' (b + v) v (Q.tf bs v d x (tns (Q.lib d))) ∧ ∀ y, y ≠ b + v → eM T T' y := by
  have h32 := tns_le (hE.2.2.2.2.1.2 d hd)
  exact m_tryl hv hl hf hd hbb 5000 0 T (by omega) (by omega) hE hb hx
/-- over the cells -/
theorem m_b129 {Q : Cq} {bs : Nat → Bst} {b v : Nat} (hv : v < Q.g.1) (hl : Q.lv v = true) (hf : (Q.g.2 v).1 ≠ 0) (hbb : b ≤ 200) (K : St → Int32 → Int32 → Int32 → Int32 → Int32 → Option (Int32 × St)) (x5 : Int32) : ∀ (f d : Nat) (T : St), d ≤ Q.c → Q.c - d < f → Q.eM T → (∀ u, u < v → rM Q T (b + u) u (bs u)) → rM Q T (b + v) v (Q.cf bs v d) → ∃ T', l_X9_best_129 K f T Q.how Q.wo (nI b) x5 (nI v) (nI d) = K T' Q.how Q.wo (nI b) x5 (nI v) ∧ Same exQ T T' ∧ rM Q T' (b + v) v (Q.cf bs v Q.c) ∧ ∀ y, y ≠ b + v → eM T T' y := by
  intro f
  induction f with
  | zero => intro d T _ h; exact absurd h (by omega)
  | succ f ih =>
    intro d T hd hf' hE hb hx
    obtain ⟨h1, h2, h3, h4, h5, h6⟩ := id hE
    have c20 := h5.1
    have hix : ix (nI v) 200 = true := ix_nI (by omega) (by decide)
    have hcl : (nI v).toNatClampNeg = v := nI_clamp (by omega)
    rw [show l_X9_best_129 K (f + 1) = b_X9_best_129 (l_X9_best_129 K f) K from rfl]
    unfold b_X9_best_129
    rw [h6.1]
    by_cases e : d = Q.c
    · rw [e, if_pos (nI_le (Nat.le_refl _) (by omega))]
      exact ⟨T, rfl, Same.rf, by rw [← e]; exact hx, fun _ _ => eM.rf⟩
    · have hlt : d < Q.c := by omega
      have e0 : ¬ nI (Q.g.2 v).1 = 0 := fun q => hf ((Eq.to_iff (nI_inj (b := 0) (by have := (h2 v hv).1; omega) (by decide))).mp q)
      have hlv : T 13 0 v = b01 true := by rw [← hl]; exact (h4 v hv).2.1
      rw [if_neg (nI_ge hlt (by omega)), gd_t hix, lt_, hcl, hlv, if_neg (show ¬ b01 true = 0 from by decide), gd_t hix, lt_, (h3.2 v hv).1, if_neg e0, gd_t (ix_nI (show d < 20 by omega) (by decide)), lt_, nI_clamp (show d < 2 ^ 31 by omega), (h6.2 d hlt).2.2.2.2]
      unfold j_X9_best_185
      by_cases hq : Q.th d = true ∧ ¬ nI d = Q.wo
      · obtain ⟨T1, a1, a2, a3, a4⟩ := m_tryAll (Q := Q) (bs := bs) hv hl hf hlt hbb hE hb hx
        rw [hq.1, if_neg (show ¬ b01 true = 0 from by decide), if_neg hq.2, bv_e a1, lt_, nI_1]
        obtain ⟨T', b1, b2, b3, b4⟩ := ih (d + 1) T1 (by omega) (by omega) (hE.same a2) (fun u hu => (hb u hu).eM (a4 _ (by omega))) (by rw [Cq.cf, if_pos hq]; exact a3)
        exact ⟨T', b1, a2.tr b2, b3, fun y hy => (a4 y hy).tr (b4 y hy)⟩
      · have go := ih (d + 1) T (by omega) (by omega) hE hb (by rw [Cq.cf, if_neg hq]; exact hx)
        cases hth : Q.th d with
        | false => rw [if_pos (show b01 false = 0 from rfl), lt_, nI_1]; exact go
        | true =>
          have z : nI d = Q.wo := by
            by_cases z : nI d = Q.wo
            · exact z
            · exact absurd ⟨hth, z⟩ hq
          rw [if_neg (show ¬ b01 true = 0 from by decide), if_pos z, lt_, nI_1]; exact go
theorem m_b95 {b v : Nat} (hb : b + v < 400) (K : St → Int32 → Int32 → Int32 → Int32 → Int32 → Option (Int32 × St)) (x2 x3 x5 : Int32) : ∀ (f p : Nat) (T : St), p ≤ 6 → 6 - p < f → (∀ j, j < p → T 34 0 (6 * (b + v) + j) = -4) → ∃ T', l_X9_best_95 K f T x2 x3 (nI b) x5 (nI v) (nI p) = K T' x2 x3 (nI b) x5 (nI v) ∧ Same [(34, 0)] T T' ∧ (∀ j, j < 6 → T' 34 0 (6 * (b + v) + j) = -4) ∧ ∀ j, j < 6 * (b + v) ∨ 6 * (b + v) + 6 ≤ j → T' 34 0 j = T 34 0 j := by
  intro f
  induction f with
  | zero => intro p T _ h; exact absurd h (by omega)
  | succ f ih =>
    intro p T hp hf h
    rw [show l_X9_best_95 K (f + 1) = b_X9_best_95 (l_X9_best_95 K f) K from rfl]
    unfold b_X9_best_95
    by_cases e : p = 6
    · subst e
      rw [if_pos (show (6 : Int32) ≤ nI 6 from by decide)]
      exact ⟨T, rfl, Same.rf, h, fun _ _ => rfl⟩
    · rw [if_neg (show ¬ (6 : Int32) ≤ nI p from nI_ge (b := 6) (show p < 6 by omega) (by decide)), show 6 * (nI b + nI v) + nI p = nI (6 * (b + v) + p) from by rw [show (6 : Int32) = nI 6 from rfl, nI_add, pk_mul, nI_add], gd_t (ix_nI (show 6 * (b + v) + p < 2400 by omega) (by decide)), lt_, lt_, nI_clamp (show 6 * (b + v) + p < 2 ^ 31 by omega), nI_1]
      obtain ⟨S', a1, a2, a3, a4⟩ := ih (p + 1) (put T 34 0 (6 * (b + v) + p) (-4)) (by omega) (by omega) (fun j hj => by
        rw [put_jj]
        by_cases z : j = p
        · rw [z, if_pos rfl]
        · rw [if_neg (by omega)]; exact h j (by omega))
      refine ⟨S', a1, (Same.rf.put (by simp)).tr a2, a3, fun j hj => ?_⟩
      rw [a4 j hj, put_jj, if_neg (by omega)]
theorem Cq.hx_0 (Q : Cq) (v : Nat) : Q.hx v b0 = ((Q.g.2 v).1 == 0 && Q.lv v) := by unfold Cq.hx b0; simp
/-- one vertex -/
theorem m_bs1 {Q : Cq} {b v : Nat} {T : St} (hv : v < Q.g.1) (hbb : b ≤ 200) (hE : Q.eM T) (hb : ∀ u, u < v → rM Q T (b + u) u (Q.bs v u)) (kb : St → Int32 → Int32 → Int32 → Int32 → Int32 → Option (Int32 × St)) (x5 : Int32) : ∃ T', b_X9_best_14 kb T Q.how Q.wo (nI b) x5 (nI v) = kb T' Q.how Q.wo (nI b) (if x5 = -4 ∧ Q.isBad v = true then nI v else x5) (nI (v + 1)) ∧ Same exQ T T' ∧ (∀ u, u < v + 1 → rM Q T' (b + u) u (Q.bs (v + 1) u)) ∧ ∀ y, y ≠ b + v → eM T T' y := by
  obtain ⟨h1, h2, h3, h4, h5, h6⟩ := id hE
  obtain ⟨u1, u2, u3⟩ := h4 v hv
  have hix : ix (nI v) 200 = true := ix_nI (by omega) (by decide)
  have hcl : (nI v).toNatClampNeg = v := nI_clamp (by omega)
  have hix4 : ix (nI (b + v)) 400 = true := ix_nI (by omega) (by decide)
  have hcl4 : (nI (b + v)).toNatClampNeg = b + v := nI_clamp (by omega)
  have e0 : (nI (Q.g.2 v).1 = 0) ↔ ((Q.g.2 v).1 = 0) := Eq.to_iff (nI_inj (b := 0) (by have := (h2 v hv).1; omega) (by decide))
  -- the end, behind the cells
  have fin : ∀ T2, Same exQ T T2 → rM Q T2 (b + v) v (Q.b1 (Q.bs v) v) → (∀ y, y ≠ b + v → eM T T2 y) → ∃ T', j_X9_best_191 kb T2 Q.how Q.wo (nI b) x5 (nI v) = kb T' Q.how Q.wo (nI b) (if x5 = -4 ∧ Q.isBad v = true then nI v else x5) (nI (v + 1)) ∧ Same exQ T T' ∧ (∀ u, u < v + 1 → rM Q T' (b + u) u (Q.bs (v + 1) u)) ∧ ∀ y, y ≠ b + v → eM T T' y := by
    intro T2 s2 hx he
    have hR : T2 14 0 v = b01 (Q.rt v) := by rw [s2 14 0 (by decide)]; exact u3
    refine ⟨T2, ?_, s2, fun u hu => ?_, he⟩
    · unfold j_X9_best_191 j_X9_best_226 j_X9_best_228
      rw [lt_, nI_1, nI_add, gd_t hix, lt_, hcl, hR, gd_t hix4, lt_, hcl4, hx.1]
      by_cases y5 : x5 = -4
      · rw [if_pos y5]
        cases hr : Q.rt v with
        | false =>
          have hb' : Q.isBad v = false := by unfold Cq.isBad; rw [hr]; rfl
          rw [if_pos (show b01 false = 0 from rfl), hb', if_neg (fun q => absurd q.2 (by decide))]
        | true =>
          have hlf := rts_lv hr
          have hb' : Q.isBad v = ((Q.b1 (Q.bs v) v).1 == -4) := by unfold Cq.isBad; rw [hr]; rfl
          have hxx : Q.hx v (Q.b1 (Q.bs v) v) = !((Q.b1 (Q.bs v) v).1 == -4) := by unfold Cq.hx; rw [show ((Q.g.2 v).1 == 0) = false from by simp [hlf.2]]; simp
          rw [if_neg (show ¬ b01 true = 0 from by decide), hb', hxx]
          cases hc : ((Q.b1 (Q.bs v) v).1 == -4) with
          | true => rw [if_pos (show b01 (!true) = 0 from rfl), if_pos ⟨y5, rfl⟩, lt_]
          | false => rw [if_neg (show ¬ b01 (!false) = 0 from by decide), if_neg (fun q => absurd q.2 (by decide))]
      · rw [if_neg y5, if_neg (fun q => y5 q.1)]
    · show rM Q T2 (b + u) u (if u = v then Q.b1 (Q.bs v) v else Q.bs v u)
      by_cases z : u = v
      · rw [if_pos z, z]; exact hx
      · rw [if_neg z]; exact (hb u (by omega)).eM (he _ (by omega))
  -- the rows of v are cleared
  have clr : ∃ T', j_X9_best_57 kb T Q.how Q.wo (nI b) x5 (nI v) (nI b + nI v) (b01 ((Q.g.2 v).1 == 0 && Q.lv v)) = kb T' Q.how Q.wo (nI b) (if x5 = -4 ∧ Q.isBad v = true then nI v else x5) (nI (v + 1)) ∧ Same exQ T T' ∧ (∀ u, u < v + 1 → rM Q T' (b + u) u (Q.bs (v + 1) u)) ∧ ∀ y, y ≠ b + v → eM T T' y := by
    unfold j_X9_best_57
    rw [nI_add, gd_t hix4, lt_, gd_t hix4, lt_, gd_t hix4, lt_, gd_t hix4, lt_, hcl4, nz_b01]
    generalize hT1 : put (put (put (put T 30 0 (b + v) (b01 ((Q.g.2 v).1 == 0 && Q.lv v))) 31 0 (b + v) 0) 32 0 (b + v) 0) 33 0 (b + v) (-4) = T1
    have s1 : Same exQ T T1 := by rw [← hT1]; exact (((Same.rf.put (by decide)).put (by decide)).put (by decide)).put (by decide)
    have r34 : T1 34 0 = T 34 0 := by rw [← hT1, put_o rfl, put_o rfl, put_o rfl, put_o rfl]
    have q30 : ∀ u, T1 30 0 u = if u = b + v then b01 ((Q.g.2 v).1 == 0 && Q.lv v) else T 30 0 u := fun u => by rw [← hT1, put_o rfl, put_o rfl, put_o rfl, put_jj]
    have q31 : ∀ u, T1 31 0 u = if u = b + v then 0 else T 31 0 u := fun u => by rw [← hT1, put_o rfl, put_o rfl, put_jj, put_o rfl]
    have q32 : ∀ u, T1 32 0 u = if u = b + v then 0 else T 32 0 u := fun u => by rw [← hT1, put_o rfl, put_jj, put_o rfl, put_o rfl]
    have q33 : ∀ u, T1 33 0 u = if u = b + v then -4 else T 33 0 u := fun u => by rw [← hT1, put_jj, put_o rfl, put_o rfl, put_o rfl]
    obtain ⟨T2, a1, a2, a3, a4⟩ := m_b95 (b := b) (v := v) (by omega) (fun S x2 x3 x4 x5 x6 => l_X9_best_129 (fun S x2 x3 x4 x5 x6 => j_X9_best_191 kb S x2 x3 x4 x5 x6) 5000 S x2 x3 x4 x5 x6 0) Q.how Q.wo x5 5000 0 T1 (by omega) (by omega) (fun j hj => absurd hj (by omega))
    have a1 : l_X9_best_95 _ 5000 T1 Q.how Q.wo (nI b) x5 (nI v) 0 = _ := a1
    rw [a1]
    have s2 : Same exQ T T2 := s1.tr (a2.mono (by decide))
    have hx2 : rM Q T2 (b + v) v b0 := ⟨by rw [a2 30 0 (by decide), q30, if_pos rfl, Cq.hx_0], by rw [a2 31 0 (by decide), q31, if_pos rfl]; rfl, by rw [a2 32 0 (by decide), q32, if_pos rfl]; rfl, by rw [a2 33 0 (by decide), q33, if_pos rfl]; rfl, fun p hp => a3 p hp⟩
    have he2 : ∀ y, y ≠ b + v → eM T T2 y := fun y hy => ⟨by rw [a2 30 0 (by decide), q30, if_neg hy], by rw [a2 31 0 (by decide), q31, if_neg hy], by rw [a2 32 0 (by decide), q32, if_neg hy], by rw [a2 33 0 (by decide), q33, if_neg hy], fun p hp => by rw [a4 _ (by omega), r34]⟩
    have hE2 := hE.same s2
    have c20 := h5.1
    by_cases hq : Q.lv v = true ∧ (Q.g.2 v).1 ≠ 0
    · obtain ⟨T3, c1, c2, c3, c4⟩ := m_b129 (Q := Q) (bs := Q.bs v) (b := b) hv hq.1 hq.2 hbb (fun S x2 x3 x4 x5 x6 => j_X9_best_191 kb S x2 x3 x4 x5 x6) x5 5000 0 T2 (by omega) (by omega) hE2 (fun u hu => (hb u hu).eM (he2 _ (by omega))) hx2
      have c1 : l_X9_best_129 (fun S x2 x3 x4 x5 x6 => j_X9_best_191 kb S x2 x3 x4 x5 x6) 5000 T2 Q.how Q.wo (nI b) x5 (nI v) 0 = _ := c1
      rw [c1]
      exact fin T3 (s2.tr c2) (by unfold Cq.b1; rw [if_pos hq]; exact c3) (fun y hy => (he2 y hy).tr (c4 y hy))
    · have hb0 : Q.b1 (Q.bs v) v = b0 := if_neg hq
      have go := fin T2 s2 (by rw [hb0]; exact hx2) he2
      have r13 : T2 13 0 v = b01 (Q.lv v) := by rw [s2 13 0 (by decide)]; exact u2
      have r8 : T2 8 0 v = nI (Q.g.2 v).1 := by rw [s2 8 0 (by decide)]; exact (h3.2 v hv).1
      rw [show l_X9_best_129 (fun S x2 x3 x4 x5 x6 => j_X9_best_191 kb S x2 x3 x4 x5 x6) 5000 = b_X9_best_129 (l_X9_best_129 (fun S x2 x3 x4 x5 x6 => j_X9_best_191 kb S x2 x3 x4 x5 x6) 4999) (fun S x2 x3 x4 x5 x6 => j_X9_best_191 kb S x2 x3 x4 x5 x6) from rfl]
      unfold b_X9_best_129
      have two : ∀ z : Prop, [Decidable z] → ∀ o : Option (Int32 × St), (if z then o else o) = o := fun z _ o => by split <;> rfl
      rw [gd_t hix, lt_, hcl, r13]
      cases hlv : Q.lv v with
      | false => rw [if_pos (show b01 false = 0 from rfl), two]; exact go
      | true =>
        have z : (Q.g.2 v).1 = 0 := by
          by_cases z : (Q.g.2 v).1 = 0
          · exact z
          · exact absurd ⟨hlv, z⟩ hq
        rw [if_neg (show ¬ b01 true = 0 from by decide), gd_t hix, lt_, r8, if_pos (e0.mpr z), two]
        exact go
  unfold b_X9_best_14 j_X9_best_56
  rw [h3.1, if_neg (nI_ge hv (by omega)), gd_t hix, lt_, hcl, (h3.2 v hv).1, gd_t hix, lt_, u2]
  by_cases z : (Q.g.2 v).1 = 0
  · rw [if_pos (e0.mpr z)]
    rw [show ((Q.g.2 v).1 == 0 && Q.lv v) = Q.lv v from by simp [z]] at clr
    have hlv' : lvs Q.g Q.m Q.ov v = Q.lv v := rfl
    rw [hlv']
    cases hlv : Q.lv v with
    | false => rw [hlv] at clr; rw [if_pos (show b01 false = 0 from rfl)]; exact clr
    | true => rw [hlv] at clr; rw [if_neg (show ¬ b01 true = 0 from by decide)]; exact clr
  · rw [if_neg (fun q => z (e0.mp q))]
    rw [show ((Q.g.2 v).1 == 0 && Q.lv v) = false from by simp [z]] at clr
    exact clr
theorem m_bsl {Q : Cq} {b : Nat} (hbb : b ≤ 200) : ∀ (f v : Nat) (T : St), v ≤ Q.g.1 → Q.g.1 - v < f → Q.eM T → (∀ u, u < v → rM Q T (b + u) u (Q.bs v u)) → ∃ T', l_X9_best_14 f T Q.how Q.wo (nI b) (match gfind Q.isBad v with | some w => nI w | none => -4) (nI v) = some (match gfind Q.isBad Q.g.1 with | some w => nI w | none => -4, T') ∧ Same exQ T T' ∧ (∀ u, u < Q.g.1 → rM Q T' (b + u) u (Q.bs Q.g.1 u)) ∧ ∀ y, y < b ∨ b + Q.g.1 ≤ y → eM T T' y := by
  intro f
  induction f with
  | zero => intro v T _ h; exact absurd h (by omega)
  | succ f ih =>
    intro v T hv hf hE hb
    have g160 : Q.g.1 ≤ 160 := hE.1
    rw [show l_X9_best_14 (f + 1) = b_X9_best_14 (l_X9_best_14 f) from rfl]
    by_cases e : v = Q.g.1
    · refine ⟨T, ?_, Same.rf, by rw [← e]; exact hb, fun _ _ => eM.rf⟩
      unfold b_X9_best_14
      rw [hE.2.2.1.1, e, if_pos (nI_le (Nat.le_refl _) (by omega))]
    · have hlt : v < Q.g.1 := by omega
      obtain ⟨T1, a1, a2, a3, a4⟩ := m_bs1 (Q := Q) (b := b) hlt hbb hE hb (l_X9_best_14 f) (match gfind Q.isBad v with | some w => nI w | none => -4)
      obtain ⟨T', b1, b2, b3, b4⟩ := ih (v + 1) T1 (by omega) (by omega) (hE.same a2) a3
      refine ⟨T', ?_, a2.tr b2, b3, fun y hy => (a4 y (by omega)).tr (b4 y hy)⟩
      rw [a1, ← b1]
      congr 1
      rw [gfind]
      cases hq : gfind Q.isBad v with
      | some w =>
        have := (gfind_spec hq).1
        simp only
        rw [if_neg (fun q => absurd q.1 (nI_m4 (by omega)))]
      | none =>
        simp only
        cases hb' : Q.isBad v with
        | true => simp
        | false => simp
theorem m_best {Q : Cq} {w : Nat} (hw : w ≤ 1) {T : St} (hE : Q.eM T) : ∃ T', f_X9_best (nI w) Q.how Q.wo T = some (match gfind Q.isBad Q.g.1 with | some w => nI w | none => -4, T') ∧ Same exQ T T' ∧ (∀ u, u < Q.g.1 → rM Q T' (200 * w + u) u (Q.bs Q.g.1 u)) ∧ ∀ y, y < 200 * w ∨ 200 * w + Q.g.1 ≤ y → eM T T' y := by
  unfold f_X9_best
  rw [lt_, show (200 : Int32) * nI w = nI (200 * w) from pk_mul 200 w]
  have g160 : Q.g.1 ≤ 160 := hE.1
  exact m_bsl (Q := Q) (b := 200 * w) (by omega) 5000 0 T (by omega) (by omega) hE (fun u hu => absurd hu (by omega))
