/-! The reference: tryAll and best -/
def Cq.hx (Q : Cq) (u : Nat) (x : Bst) : Bool := ((Q.g.2 u).1 == 0 && Q.lv u) || !(x.1 == -4)
def rM (Q : Cq) (T : St) (y u : Nat) (x : Bst) : Prop := T 30 0 y = b01 (Q.hx u x) ∧ T 31 0 y = x.2.1 ∧ T 32 0 y = x.2.2.1 ∧ T 33 0 y = x.1 ∧ ∀ p, p < 6 → T 34 0 (6 * y + p) = x.2.2.2 p
def eM (T T' : St) (y : Nat) : Prop := T' 30 0 y = T 30 0 y ∧ T' 31 0 y = T 31 0 y ∧ T' 32 0 y = T 32 0 y ∧ T' 33 0 y = T 33 0 y ∧ ∀ p, p < 6 → T' 34 0 (6 * y + p) = T 34 0 (6 * y + p)
theorem rM.eM {Q : Cq} {T T' : St} {y u : Nat} {x : Bst} (h : rM Q T y u x) (e : eM T T' y) : rM Q T' y u x := by
  obtain ⟨a1, a2, a3, a4, a5⟩ := h
  obtain ⟨e1, e2, e3, e4, e5⟩ := e
  exact ⟨e1.trans a1, e2.trans a2, e3.trans a3, e4.trans a4, fun p hp => (e5 p hp).trans (a5 p hp)⟩
theorem eM.tr {T T1 T2 : St} {y : Nat} (h : eM T T1 y) (h2 : eM T1 T2 y) : eM T T2 y := by
  obtain ⟨a1, a2, a3, a4, a5⟩ := h
  obtain ⟨e1, e2, e3, e4, e5⟩ := h2
  exact ⟨e1.trans a1, e2.trans a2, e3.trans a3, e4.trans a4, fun p hp => (e5 p hp).trans (a5 p hp)⟩
theorem eM.rf {T : St} {y : Nat} : eM T T y := ⟨rfl, rfl, rfl, rfl, fun _ _ => rfl⟩
theorem eM.of {T T' : St} {y : Nat} (h : ∀ k, k = 30 ∨ k = 31 ∨ k = 32 ∨ k = 33 ∨ k = 34 → T' k 0 = T k 0) : eM T T' y := ⟨by rw [h 30 (by simp)], by rw [h 31 (by simp)], by rw [h 32 (by simp)], by rw [h 33 (by simp)], fun p _ => by rw [h 34 (by simp)]⟩
def exQ : List (Nat × Nat) := [(28, 0), (29, 0), (30, 0), (31, 0), (32, 0), (33, 0), (34, 0)]
def ksM : List Nat := [0, 8, 9, 10, 12, 13, 14, 16, 17, 18, 19, 20, 21, 22, 23, 24, 25]
theorem EvM.keep {g : Gr} {m : Nat} {ov : Nat → Nat} {c : Nat} {lib : Nat → Cel} {th : Nat → Bool} {T T' : St} (h : EvM g m ov c lib th T) (hs : ∀ k, k ∈ ksM → k ≠ 0 → T' k 0 = T k 0) (h11 : T' 0 0 11 = T 0 0 11) (h22 : T' 0 0 22 = T 0 0 22) : EvM g m ov c lib th T' := by
  obtain ⟨h1, h2, h3, h4, h5, h6⟩ := h
  have r := fun k (hk : k ∈ ksM) (h0 : k ≠ 0) => hs k hk h0
  refine ⟨h1, h2, ⟨?_, ?_⟩, ?_, h5, ?_, fun d hd => ?_⟩
  · rw [h11]; exact h3.1
  · rw [r 8 (by decide) (by decide), r 9 (by decide) (by decide), r 10 (by decide) (by decide)]; exact h3.2
  · unfold EM; rw [r 12 (by decide) (by decide), r 13 (by decide) (by decide), r 14 (by decide) (by decide)]; exact h4
  · rw [h22]; exact h6.1
  · obtain ⟨a1, a2, a3, a4, a5⟩ := h6.2 d hd
    refine ⟨a1.cg (fun q hq => ?_), ?_, ?_, ?_, ?_⟩
    · have : q = (20, 0) ∨ q = (21, 0) ∨ q = (22, 0) ∨ q = (23, 0) ∨ q = (24, 0) ∨ q = (25, 0) := by simpa using hq
      rcases this with rfl | rfl | rfl | rfl | rfl | rfl
      · exact r 20 (by decide) (by decide)
      · exact r 21 (by decide) (by decide)
      · exact r 22 (by decide) (by decide)
      · exact r 23 (by decide) (by decide)
      · exact r 24 (by decide) (by decide)
      · exact r 25 (by decide) (by decide)
    · rw [r 17 (by decide) (by decide)]; exact a2
    · rw [r 18 (by decide) (by decide)]; exact a3
    · rw [r 19 (by decide) (by decide)]; exact a4
    · rw [r 16 (by decide) (by decide)]; exact a5
def Cq.eM (Q : Cq) (T : St) : Prop := EvM Q.g Q.m Q.ov Q.c Q.lib Q.th T
theorem Cq.eM.same {Q : Cq} {T T' : St} (h : Q.eM T) (s : Same exQ T T') : Q.eM T' := EvM.keep h (fun k hk _ => s k 0 (fun hm => by
    have : ∀ q ∈ exQ, q.1 ∉ ksM := by decide
    exact this _ hm hk)) (by rw [s 0 0 (by decide)]) (by rw [s 0 0 (by decide)])
theorem Cq.hx_v (Q : Cq) (bs : Nat → Bst) (u : Nat) : Q.hx u (bs u) = Q.hv bs u := rfl
theorem m_t44 {Q : Cq} {bs : Nat → Bst} {b v : Nat} {P : Pns} {T : St} (h : Q.eM T) (hv : v < Q.g.1) (hbb : b ≤ 200) (hP : ∀ p, p < 6 → T 29 0 p = P p) (hok : ∀ p, okP Q.g Q.m Q.ov v (P p)) (hb : ∀ u, u < v → rM Q T (b + u) u (bs u)) (K : St → Int32 → Int32 → Int32 → Int32 → Int32 → Int32 → Int32 → Int32 → Option St) (x2 x3 x4 x5 a : Int32) : ∀ (f p : Nat), p ≤ 6 → 6 - p < f → l_X9_tryAll_44 K f T (nI b) x2 x3 x4 x5 (b01 (Q.can bs P p)) (Q.wf bs P a p).1 (Q.wf bs P a p).2 (nI p) = K T (nI b) x2 x3 x4 x5 (b01 (Q.can bs P 6)) (Q.wf bs P a 6).1 (Q.wf bs P a 6).2 := by
  intro f
  induction f with
  | zero => intro p _ hf; exact absurd hf (by omega)
  | succ f ih =>
    intro p hp hf
    obtain ⟨h1, h2, h3, h4, h5, h6⟩ := id h
    rw [show l_X9_tryAll_44 K (f + 1) = b_X9_tryAll_44 (l_X9_tryAll_44 K f) K from rfl]
    unfold b_X9_tryAll_44
    by_cases e : p = 6
    · subst e
      rw [if_pos (show (6 : Int32) ≤ nI 6 from by decide)]
    · have hlt : p < 6 := by omega
      have ih := ih (p + 1) (by omega) (by omega)
      rw [if_neg (show ¬ (6 : Int32) ≤ nI p from nI_ge (b := 6) hlt (by decide)), gd_t (ix_nI hlt (by decide)), lt_, nI_clamp (show p < 2 ^ 31 by omega), hP p hlt]
      rcases hok p with h4' | ⟨u, hu, hl, hq⟩
      · rw [Cq.can, Cq.wf, if_pos h4', show (P p == -4) = true from by simp [h4'], Bool.true_or, Bool.and_true] at ih
        unfold j_X9_tryAll_153
        rw [if_pos h4', lt_, nI_1, ih]
      · have hcl : (P p).toNatClampNeg = u := by rw [hq, nI_clamp (by omega)]
        obtain ⟨b1, b2, b3, b4, b5⟩ := hb u hu
        have n4 : ¬ P p = -4 := by rw [hq]; exact nI_m4 (by omega)
        have hR := (h4 u (by omega)).2.2
        rw [Cq.can, Cq.wf, if_neg n4, hcl, show (P p == -4) = false from by rw [hq]; exact m4_nI (by omega), Bool.false_or] at ih
        have hix : ix (nI (b + u)) 400 = true := ix_nI (by omega) (by decide)
        have hcl2 : (nI (b + u)).toNatClampNeg = b + u := nI_clamp (by omega)
        have fin : ∀ cb : Bool, cb = (Q.can bs P p && Q.hv bs u) → j_X9_tryAll_94 (l_X9_tryAll_44 K f) K T (nI b) x2 x3 x4 x5 (Q.wf bs P a p).1 (Q.wf bs P a p).2 (nI p) (nI (b + u)) (b01 cb) = K T (nI b) x2 x3 x4 x5 (b01 (Q.can bs P 6)) (Q.wf bs P a 6).1 (Q.wf bs P a 6).2 := by
          intro cb hcb
          rw [← hcb] at ih
          unfold j_X9_tryAll_94 j_X9_tryAll_124 j_X9_tryAll_151 j_X9_tryAll_153
          rw [gd_t (ix_nI hlt (by decide)), lt_, nI_clamp (show p < 2 ^ 31 by omega), hP p hlt, hq, gd_t (ix_nI (show u < 200 by omega) (by decide)), lt_, nI_clamp (show u < 2 ^ 31 by omega), hR]
          have l8 : ∀ X : Int32, (gd (ix (nI (b + u)) 400) (lt_ (T 32 0 (nI (b + u)).toNatClampNeg) (fun v_29 => if v_29 ≤ (Q.wf bs P a p).2 then lt_ (nI p + 1) (fun v_15 => l_X9_tryAll_44 K f T (nI b) x2 x3 x4 x5 (b01 cb) X (Q.wf bs P a p).2 v_15) else gd (ix (nI (b + u)) 400) (lt_ (T 32 0 (nI (b + u)).toNatClampNeg) (fun v_32 => lt_ (nI p + 1) (fun v_15 => l_X9_tryAll_44 K f T (nI b) x2 x3 x4 x5 (b01 cb) X v_32 v_15)))))) = l_X9_tryAll_44 K f T (nI b) x2 x3 x4 x5 (b01 cb) X (if (Q.wf bs P a p).2 < (bs u).2.2.1 then (bs u).2.2.1 else (Q.wf bs P a p).2) (nI (p + 1)) := by
            intro X
            rw [gd_t hix, lt_, hcl2, b3, lt_, nI_1, gd_t hix, lt_, lt_]
            by_cases z : (bs u).2.2.1 ≤ (Q.wf bs P a p).2
            · rw [if_pos z, if_neg (fun q => (lt_nle.mp q) z)]
            · rw [if_neg z, if_pos (lt_nle.mpr z)]
          cases hr : rts Q.g Q.m Q.ov u with
          | true =>
            have hr' : Q.rt u = true := hr
            rw [hr', if_pos rfl] at ih
            rw [if_neg (show ¬ b01 true = 0 from by decide), lt_, Int32.add_zero, l8]
            exact ih
          | false =>
            have hr' : Q.rt u = false := hr
            rw [hr', if_neg (by decide)] at ih
            rw [if_pos (show b01 false = 0 from rfl), gd_t hix, lt_, lt_, hcl2, b2]
            rw [hcl2] at l8
            rw [l8]
            exact ih
        unfold j_X9_tryAll_93
        rw [if_neg n4, gd_t (ix_nI hlt (by decide)), lt_, lt_, hq, nI_add]
        cases hc : Q.can bs P p with
        | false =>
          rw [if_pos (show b01 false = 0 from rfl)]
          exact fin false (by rw [hc]; rfl)
        | true =>
          rw [if_neg (show ¬ b01 true = 0 from by decide), gd_t hix, lt_, hcl2, b1, Cq.hx_v]
          cases hh : Q.hv bs u with
          | false =>
            rw [if_pos (show b01 false = 0 from rfl)]
            exact fin false (by rw [hc, hh]; rfl)
          | true =>
            rw [if_neg (show ¬ b01 true = 0 from by decide)]
            exact fin true (by rw [hc, hh]; rfl)
theorem m_t328 {b v : Nat} (hb : b + v < 400) (K : St → Int32 → Int32 → Int32 → Int32 → Int32 → Option St) (x3 x4 x5 : Int32) : ∀ (f p : Nat) (T : St), p ≤ 6 → 6 - p < f → (∀ j, j < p → T 34 0 (6 * (b + v) + j) = T 29 0 j) → ∃ T', l_X9_tryAll_328 K f T (nI b) (nI v) x3 x4 x5 (nI p) = K T' (nI b) (nI v) x3 x4 x5 ∧ Same [(34, 0)] T T' ∧ (∀ j, j < 6 → T' 34 0 (6 * (b + v) + j) = T 29 0 j) ∧ ∀ j, j < 6 * (b + v) ∨ 6 * (b + v) + 6 ≤ j → T' 34 0 j = T 34 0 j := by
  intro f
  induction f with
  | zero => intro p T _ h; exact absurd h (by omega)
  | succ f ih =>
    intro p T hp hf h
    rw [show l_X9_tryAll_328 K (f + 1) = b_X9_tryAll_328 (l_X9_tryAll_328 K f) K from rfl]
    unfold b_X9_tryAll_328
    by_cases e : p = 6
    · subst e
      rw [if_pos (show (6 : Int32) ≤ nI 6 from by decide)]
      exact ⟨T, rfl, Same.rf, h, fun _ _ => rfl⟩
    · rw [if_neg (show ¬ (6 : Int32) ≤ nI p from nI_ge (b := 6) (show p < 6 by omega) (by decide)), gd_t (ix_nI (show p < 6 by omega) (by decide)), lt_, nI_clamp (show p < 2 ^ 31 by omega), show 6 * (nI b + nI v) + nI p = nI (6 * (b + v) + p) from by rw [show (6 : Int32) = nI 6 from rfl, nI_add, pk_mul, nI_add], gd_t (ix_nI (show 6 * (b + v) + p < 2400 by omega) (by decide)), lt_, lt_, nI_clamp (show 6 * (b + v) + p < 2 ^ 31 by omega), nI_1]
      have r29 : put T 34 0 (6 * (b + v) + p) (T 29 0 p) 29 0 = T 29 0 := put_o rfl
      obtain ⟨S', a1, a2, a3, a4⟩ := ih (p + 1) (put T 34 0 (6 * (b + v) + p) (T 29 0 p)) (by omega) (by omega) (fun j hj => by
        rw [put_jj, r29]
        by_cases z : j = p
        · rw [z, if_pos rfl]
        · rw [if_neg (by omega)]; exact h j (by omega))
      rw [r29] at a3
      refine ⟨S', a1, (Same.rf.put (by simp)).tr a2, a3, fun j hj => ?_⟩
      rw [a4 j hj, put_jj, if_neg (by omega)]
/-- what is found is kept -/
theorem m_keep {Q : Cq} {b v d : Nat} (hbv : b + v < 400) (hd : d < 20) {a l x4 x5 : Int32} {P : Pns} {T : St} (hP : ∀ p, p < 6 → T 29 0 p = P p) (kb : St → Int32 → Int32 → Int32 → Int32 → Int32 → Option St) : ∃ T', j_X9_tryAll_287 kb T (nI b) (nI v) (nI d) x4 x5 a l = kb T' (nI b) (nI v) (nI d) x4 (x5 + 1) ∧ Same exQ T T' ∧ T' 28 0 = T 28 0 ∧ rM Q T' (b + v) v (nI d, a, l, P) ∧ ∀ y, y ≠ b + v → eM T T' y := by
  unfold j_X9_tryAll_287
  have hix : ix (nI b + nI v) 400 = true := by rw [nI_add]; exact ix_nI hbv (by decide)
  have hcl : (nI b + nI v).toNatClampNeg = b + v := by rw [nI_add]; exact nI_clamp (by omega)
  rw [gd_t hix, lt_, gd_t hix, lt_, gd_t hix, lt_, gd_t hix, lt_, hcl, nz_1]
  generalize hT1 : put (put (put (put T 30 0 (b + v) 1) 31 0 (b + v) a) 32 0 (b + v) l) 33 0 (b + v) (nI d) = T1
  have s1 : Same exQ T T1 := by rw [← hT1]; exact (((Same.rf.put (by decide)).put (by decide)).put (by decide)).put (by decide)
  have r29 : T1 29 0 = T 29 0 := by rw [← hT1, put_o rfl, put_o rfl, put_o rfl, put_o rfl]
  have r28 : T1 28 0 = T 28 0 := by rw [← hT1, put_o rfl, put_o rfl, put_o rfl, put_o rfl]
  have r34 : T1 34 0 = T 34 0 := by rw [← hT1, put_o rfl, put_o rfl, put_o rfl, put_o rfl]
  have q30 : ∀ u, T1 30 0 u = if u = b + v then 1 else T 30 0 u := fun u => by rw [← hT1, put_o rfl, put_o rfl, put_o rfl, put_jj]
  have q31 : ∀ u, T1 31 0 u = if u = b + v then a else T 31 0 u := fun u => by rw [← hT1, put_o rfl, put_o rfl, put_jj, put_o rfl]
  have q32 : ∀ u, T1 32 0 u = if u = b + v then l else T 32 0 u := fun u => by rw [← hT1, put_o rfl, put_jj, put_o rfl, put_o rfl]
  have q33 : ∀ u, T1 33 0 u = if u = b + v then nI d else T 33 0 u := fun u => by rw [← hT1, put_jj, put_o rfl, put_o rfl, put_o rfl]
  obtain ⟨T', a1, a2, a3, a4⟩ := m_t328 hbv (fun S x1 x2 x3 x4 x5 => j_X9_tryAll_362 kb S x1 x2 x3 x4 x5) (nI d) x4 x5 5000 0 T1 (by omega) (by omega) (fun j hj => absurd hj (by omega))
  have a1 : l_X9_tryAll_328 (fun S x1 x2 x3 x4 x5 => j_X9_tryAll_362 kb S x1 x2 x3 x4 x5) 5000 T1 (nI b) (nI v) (nI d) x4 x5 0 = _ := a1
  refine ⟨T', ?_, s1.tr (a2.mono (by decide)), by rw [a2 28 0 (by decide), r28], ⟨?_, ?_, ?_, ?_, fun p hp => ?_⟩, fun y hy => ⟨?_, ?_, ?_, ?_, fun p hp => ?_⟩⟩
  · rw [a1]; rfl
  · rw [a2 30 0 (by decide), q30, if_pos rfl]
    unfold Cq.hx
    rw [m4_nI (by omega)]
    simp [b01]
  · rw [a2 31 0 (by decide), q31, if_pos rfl]
  · rw [a2 32 0 (by decide), q32, if_pos rfl]
  · rw [a2 33 0 (by decide), q33, if_pos rfl]
  · rw [a3 p hp, r29]; exact hP p hp
  · rw [a2 30 0 (by decide), q30, if_neg hy]
  · rw [a2 31 0 (by decide), q31, if_neg hy]
  · rw [a2 32 0 (by decide), q32, if_neg hy]
  · rw [a2 33 0 (by decide), q33, if_neg hy]
  · rw [a4 _ (by omega), r34]
/-- the choice at one match -/
theorem m_248 {Q : Cq} {b v d : Nat} (hbv : b + v < 400) (hd : d < 20) (hf : (Q.g.2 v).1 ≠ 0) {P : Pns} {x : Bst} {T : St} (hP : ∀ p, p < 6 → T 29 0 p = P p) (hx : rM Q T (b + v) v x) (kb : St → Int32 → Int32 → Int32 → Int32 → Int32 → Option St) (cb : Bool) (a l x5 : Int32) : ∃ T', (if Q.how = 0 then j_X9_tryAll_182 kb T (nI b) (nI v) (nI d) Q.how x5 (b01 cb) a l a else j_X9_tryAll_182 kb T (nI b) (nI v) (nI d) Q.how x5 (b01 cb) a l l) = kb T' (nI b) (nI v) (nI d) Q.how (x5 + 1) ∧ Same exQ T T' ∧ T' 28 0 = T 28 0 ∧ rM Q T' (b + v) v (if cb && (x.1 == -4 || Q.btr a l x) then (nI d, a, l, P) else x) ∧ ∀ y, y ≠ b + v → eM T T' y := by
  have hix : ix (nI b + nI v) 400 = true := by rw [nI_add]; exact ix_nI hbv (by decide)
  have hcl : (nI b + nI v).toNatClampNeg = b + v := by rw [nI_add]; exact nI_clamp (by omega)
  obtain ⟨x1, x2, x3, x4, x6⟩ := id hx
  have hk := m_keep (Q := Q) hbv hd (a := a) (l := l) (x4 := Q.how) (x5 := x5) hP kb
  have no : ∃ T', j_X9_tryAll_362 kb T (nI b) (nI v) (nI d) Q.how x5 = kb T' (nI b) (nI v) (nI d) Q.how (x5 + 1) ∧ Same exQ T T' ∧ T' 28 0 = T 28 0 ∧ rM Q T' (b + v) v x ∧ ∀ y, y ≠ b + v → eM T T' y := ⟨T, rfl, Same.rf, rfl, hx, fun _ _ => eM.rf⟩
  have hxb : Q.hx v x = !(x.1 == -4) := by unfold Cq.hx; rw [show ((Q.g.2 v).1 == 0) = false from by simp [hf]]; simp
  -- the end, for either order
  have fin : ∀ one two h1 h2 : Int32, Q.btr a l x = lexl one two h1 h2 → ∃ T', j_X9_tryAll_248 kb T (nI b) (nI v) (nI d) Q.how x5 (b01 cb) a l one two h1 h2 = kb T' (nI b) (nI v) (nI d) Q.how (x5 + 1) ∧ Same exQ T T' ∧ T' 28 0 = T 28 0 ∧ rM Q T' (b + v) v (if cb && (x.1 == -4 || Q.btr a l x) then (nI d, a, l, P) else x) ∧ ∀ y, y ≠ b + v → eM T T' y := by
    intro one two h1 h2 hbt
    unfold j_X9_tryAll_248
    cases cb with
    | false => rw [if_pos (show b01 false = 0 from rfl), Bool.false_and, if_neg (by decide)]; exact no
    | true =>
      rw [if_neg (show ¬ b01 true = 0 from by decide), gd_t hix, lt_, hcl, x1, hxb, Bool.true_and, hbt]
      cases hc : (x.1 == -4) with
      | true => rw [if_pos (show b01 (!true) = 0 from rfl), Bool.true_or, if_pos rfl]; exact hk
      | false =>
        rw [if_neg (show ¬ b01 (!false) = 0 from by decide), Bool.false_or]
        unfold lexl
        by_cases y1 : one < h1
        · rw [if_pos y1, decide_eq_true y1, Bool.true_or, if_pos rfl]; exact hk
        · rw [if_neg y1, decide_eq_false y1, Bool.false_or]
          by_cases y2 : one = h1
          · rw [if_pos y2, decide_eq_true y2, Bool.true_and]
            by_cases y3 : h2 ≤ two
            · rw [if_pos y3, decide_eq_false (fun q => (lt_nle.mp q) y3), if_neg (by decide)]; exact no
            · rw [if_neg y3, decide_eq_true (lt_nle.mpr y3), if_pos rfl]; exact hk
          · rw [if_neg y2, decide_eq_false y2, Bool.false_and, if_neg (by decide)]; exact no
  unfold j_X9_tryAll_182 j_X9_tryAll_196 j_X9_tryAll_222
  rw [gd_t hix, lt_, hcl, gd_t hix, lt_, x2, x3]
  by_cases h0 : Q.how = 0
  · rw [if_pos h0, if_pos h0, if_pos h0, if_pos h0]
    exact fin _ _ _ _ (by unfold Cq.btr; rw [if_pos h0])
  · rw [if_neg h0, if_neg h0, if_neg h0, gd_t hix, lt_, if_neg h0, gd_t hix, lt_]
    exact fin _ _ _ _ (by unfold Cq.btr; rw [if_neg h0])
