/-! The class: weigh, choose, make -/
def rB (t : Nat) (S : St) (u : Nat) (x : Bst) : Prop := S 29 t u = x.1 ∧ S 27 t u = x.2.1 ∧ S 28 t u = x.2.2.1 ∧ (x.1 ≠ -4 → ∀ p, p < 6 → S 30 t (u * 6 + p) = x.2.2.2 p)
def ksE : List Nat := [1, 4, 8, 9, 10, 11, 12, 13, 14, 36]
theorem EvC.keep {g : Gr} {m : Nat} {ov : Nat → Nat} {c : Nat} {lib : Nat → Cel} {th : Nat → Bool} {S S' : St} (h : EvC g m ov c lib th S) (hs : ∀ k i, k ∈ ksE → S' k i = S k i) : EvC g m ov c lib th S' := by
  obtain ⟨h1, h2, h3, h4, h5, h6⟩ := h
  have r := fun k (hk : k ∈ ksE) => hs k 0 hk
  refine ⟨h1, h2, ⟨?_, ?_⟩, ?_, h5, ?_, fun d hd => ?_⟩
  · rw [r 1 (by decide)]; exact h3.1
  · rw [r 9 (by decide), r 10 (by decide), r 11 (by decide)]; exact h3.2
  · unfold EM; rw [r 12 (by decide), r 13 (by decide), r 14 (by decide)]; exact h4
  · rw [r 4 (by decide)]; exact h6.1
  · unfold CL; rw [hs 8 d (by decide), hs 36 d (by decide)]; exact h6.2 d hd
theorem Same.ks {ex : List (Nat × Nat)} {S S' : St} (h : Same ex S S') (hx : ∀ q ∈ ex, q.1 ∉ ksE) : ∀ k i, k ∈ ksE → S' k i = S k i := fun k i hk => h k i (fun hm => hx _ hm hk)
def Cq.eC (Q : Cq) (S : St) : Prop := EvC Q.g Q.m Q.ov Q.c Q.lib Q.th S
theorem Cq.eC.same {Q : Cq} {ex : List (Nat × Nat)} {S S' : St} (h : Q.eC S) (s : Same ex S S') (hx : ∀ q ∈ ex, q.1 ∉ ksE) : Q.eC S' := EvC.keep h (s.ks hx)
theorem m4_nI {a : Nat} (h : a < 2 ^ 31) : (nI a == (-4 : Int32)) = false := by
  rw [beq_eq_false_iff_ne]
  exact nI_m4 h
theorem c_hasOne {Q : Cq} {bs : Nat → Bst} {t u : Nat} {S : St} (h : Q.eC S) (hu : u < Q.g.1) (hl : Q.lv u = true) (hb : S 29 t u = (bs u).1) : f_X1_hasOne t (nI u) S = some (b01 (Q.hv bs u), S) := by
  obtain ⟨h1, h2, h3, h4, h5, h6⟩ := id h
  unfold f_X1_hasOne j_X1_hasOne_23 j_X1_hasOne_28 Cq.hv
  have e0 : (nI (Q.g.2 u).1 = 0) ↔ ((Q.g.2 u).1 = 0) := Eq.to_iff (nI_inj (b := 0) (by have := (h2 u hu).1; omega) (by decide))
  rw [gd_t (ix_nI (show u < 160 by omega) (by decide)), lt_, nI_clamp (show u < 2 ^ 31 by omega), (h3.2 u hu).1, gd_t (ix_nI (show u < 160 by omega) (by decide)), lt_, hb, hl, gd_t (show bz 1 = true from by decide), gd_t (show bz 0 = true from by decide)]
  by_cases z : (Q.g.2 u).1 = 0
  · rw [if_pos (e0.mpr z)]; simp [z, b01]
  · rw [if_neg (fun q => z (e0.mp q))]
    by_cases y : (bs u).1 = -4
    · rw [if_pos y]; simp [z, y, b01]
    · rw [if_neg y]; simp [z, y, b01]
theorem Cq.can_mono {Q : Cq} {bs : Nat → Bst} {P : Pns} {p : Nat} (h : Q.can bs P p = false) : ∀ {r : Nat}, p ≤ r → Q.can bs P r = false
  | 0, hr => by
    have e : p = 0 := by omega
    rw [e] at h; exact h
  | r + 1, hr => by
    by_cases e : p = r + 1
    · rw [← e]; exact h
    · rw [Cq.can, Cq.can_mono h (r := r) (by omega)]; rfl
theorem c_wghl {Q : Cq} {bs : Nat → Bst} {t v : Nat} {P : Pns} {S : St} (h : Q.eC S) (hv : v < Q.g.1) (hP : ∀ p, p < 6 → S 26 0 p = P p) (hok : ∀ p, okP Q.g Q.m Q.ov v (P p)) (hb : ∀ u, u < v → rB t S u (bs u)) (K : St → Int32 → Int32 → Int32 → Int32 → Option St) (x1 x2 a : Int32) : ∀ (f p : Nat), p ≤ 6 → 6 - p < f → Q.can bs P p = true → l_X1_weigh_19 t K f S x1 x2 (Q.wf bs P a p).1 (Q.wf bs P a p).2 (nI p) = if Q.can bs P 6 = true then K S x1 x2 (Q.wf bs P a 6).1 (Q.wf bs P a 6).2 else some S := by
  intro f
  induction f with
  | zero => intro p _ hf; exact absurd hf (by omega)
  | succ f ih =>
    intro p hp hf hc
    obtain ⟨h1, h2, h3, h4, h5, h6⟩ := id h
    rw [show l_X1_weigh_19 t K (f + 1) = b_X1_weigh_19 t (l_X1_weigh_19 t K f) K from rfl]
    unfold b_X1_weigh_19
    by_cases e : p = 6
    · subst e
      rw [if_pos (show (6 : Int32) ≤ nI 6 from by decide), if_pos hc]
    · have hlt : p < 6 := by omega
      rw [if_neg (show ¬ (6 : Int32) ≤ nI p from nI_ge (b := 6) hlt (by decide)), gd_t (ix_nI hlt (by decide)), lt_, nI_clamp (show p < 2 ^ 31 by omega), hP p hlt]
      rcases hok p with h4' | ⟨u, hu, hl, hq⟩
      · have ih := ih (p + 1) (by omega) (by omega) (by rw [Cq.can, hc, h4']; rfl)
        rw [Cq.wf, if_pos h4'] at ih
        unfold j_X1_weigh_95
        rw [if_pos h4', lt_, nI_1, ih]
      · have hcl : (P p).toNatClampNeg = u := by rw [hq, nI_clamp (by omega)]
        obtain ⟨b1, b2, b3, b4⟩ := hb u hu
        have n4 : ¬ P p = -4 := by rw [hq]; exact nI_m4 (by omega)
        rw [if_neg n4]
        rw [hq, bi_e (c_hasOne h (show u < Q.g.1 by omega) hl b1)]
        cases hh : Q.hv bs u with
        | false =>
          rw [if_pos (show b01 false = 0 from rfl)]
          have hcf : Q.can bs P (p + 1) = false := by rw [Cq.can, hc, hcl, hh, hq, m4_nI (by omega)]; rfl
          rw [if_neg (by rw [Cq.can_mono hcf (r := 6) (by omega)]; decide)]
        | true =>
          have hct : Q.can bs P (p + 1) = true := by rw [Cq.can, hc, hcl, hh, hq, m4_nI (by omega)]; rfl
          have ih := ih (p + 1) (by omega) (by omega) hct
          rw [Cq.wf, if_neg n4, hcl] at ih
          have hR := (h4 u (by omega)).2.2
          unfold j_X1_weigh_81 j_X1_weigh_95
          rw [if_neg (show ¬ b01 true = 0 from by decide), gd_t (ix_nI (show u < 160 by omega) (by decide)), lt_, nI_clamp (show u < 2 ^ 31 by omega), hR]
          cases hr : rts Q.g Q.m Q.ov u with
          | true =>
            have hr' : Q.rt u = true := hr
            rw [hr'] at ih
            rw [if_neg (show ¬ b01 true = 0 from by decide), gd_t (ix_nI (show u < 160 by omega) (by decide)), lt_, b3, lt_, lt_, nI_1]
            exact ih
          | false =>
            have hr' : Q.rt u = false := hr
            rw [hr'] at ih
            rw [if_pos (show b01 false = 0 from rfl), gd_t (ix_nI (show u < 160 by omega) (by decide)), lt_, b2, lt_, gd_t (ix_nI (show u < 160 by omega) (by decide)), lt_, b3, lt_, lt_, nI_1]
            exact ih
theorem c_keepl {t v : Nat} (hv : v < 160) : ∀ (f p : Nat) (S : St), p ≤ 6 → 6 - p < f → (∀ j, j < p → S 30 t (v * 6 + j) = S 26 0 j) → ∃ S', l_X1_keep_25 t f S (nI v) (nI p) = some S' ∧ Same [(30, t)] S S' ∧ (∀ j, j < 6 → S' 30 t (v * 6 + j) = S 26 0 j) ∧ ∀ j, j < v * 6 ∨ v * 6 + 6 ≤ j → S' 30 t j = S 30 t j := by
  intro f
  induction f with
  | zero => intro p S _ h; exact absurd h (by omega)
  | succ f ih =>
    intro p S hp hf h
    rw [show l_X1_keep_25 t (f + 1) = b_X1_keep_25 t (l_X1_keep_25 t f) from rfl]
    unfold b_X1_keep_25
    by_cases e : p = 6
    · subst e
      rw [if_pos (show (6 : Int32) ≤ nI 6 from by decide)]
      exact ⟨S, rfl, Same.rf, h, fun _ _ => rfl⟩
    · rw [if_neg (show ¬ (6 : Int32) ≤ nI p from nI_ge (b := 6) (show p < 6 by omega) (by decide)), gd_t (ix_nI (show p < 6 by omega) (by decide)), lt_, nI_clamp (show p < 2 ^ 31 by omega), show nI v * 6 + nI p = nI (v * 6 + p) from by rw [show (6 : Int32) = nI 6 from rfl, pk_mul, nI_add], gd_t (ix_nI (show v * 6 + p < 960 by omega) (by decide)), lt_, lt_, nI_clamp (show v * 6 + p < 2 ^ 31 by omega), nI_1]
      have r26 : put S 30 t (v * 6 + p) (S 26 0 p) 26 0 = S 26 0 := put_ne (by omega)
      obtain ⟨S', a1, a2, a3, a4⟩ := ih (p + 1) (put S 30 t (v * 6 + p) (S 26 0 p)) (by omega) (by omega) (fun j hj => by
        rw [put_jj, r26]
        by_cases z : j = p
        · rw [z, if_pos rfl]
        · rw [if_neg (by omega)]; exact h j (by omega))
      rw [r26] at a3
      refine ⟨S', a1, (Same.rf.put (by simp)).tr a2, a3, fun j hj => ?_⟩
      rw [a4 j hj, put_jj, if_neg (by omega)]
def exB (t : Nat) : List (Nat × Nat) := [(27, t), (28, t), (29, t), (30, t)]
/-- a vertex's rows are as they were -/
def eB (t : Nat) (S S' : St) (u : Nat) : Prop := S' 29 t u = S 29 t u ∧ S' 27 t u = S 27 t u ∧ S' 28 t u = S 28 t u ∧ ∀ p, p < 6 → S' 30 t (u * 6 + p) = S 30 t (u * 6 + p)
theorem rB.eB {t u : Nat} {S S' : St} {x : Bst} (h : rB t S u x) (e : eB t S S' u) : rB t S' u x := by
  obtain ⟨a1, a2, a3, a4⟩ := h
  obtain ⟨e1, e2, e3, e4⟩ := e
  exact ⟨by rw [e1]; exact a1, by rw [e2]; exact a2, by rw [e3]; exact a3, fun h p hp => by rw [e4 p hp]; exact a4 h p hp⟩
theorem eB.tr {t u : Nat} {S S1 S2 : St} (h : eB t S S1 u) (h2 : eB t S1 S2 u) : eB t S S2 u := by
  obtain ⟨a1, a2, a3, a4⟩ := h
  obtain ⟨e1, e2, e3, e4⟩ := h2
  exact ⟨e1.trans a1, e2.trans a2, e3.trans a3, fun p hp => (e4 p hp).trans (a4 p hp)⟩
theorem eB.of {t u : Nat} {S S' : St} (h : ∀ k, k = 27 ∨ k = 28 ∨ k = 29 ∨ k = 30 → S' k t = S k t) : eB t S S' u := ⟨by rw [h 29 (by simp)], by rw [h 27 (by simp)], by rw [h 28 (by simp)], fun p _ => by rw [h 30 (by simp)]⟩
theorem c_keep {t v : Nat} (hv : v < 160) {c a l : Int32} {P : Pns} {S : St} (hP : ∀ p, p < 6 → S 26 0 p = P p) : ∃ S', f_X1_keep t (nI v) c a l S = some S' ∧ Same (exB t) S S' ∧ rB t S' v (c, a, l, P) ∧ ∀ u, u ≠ v → eB t S S' u := by
  unfold f_X1_keep
  rw [gd_t (ix_nI hv (by decide)), lt_, gd_t (ix_nI hv (by decide)), lt_, gd_t (ix_nI hv (by decide)), lt_, nI_clamp (show v < 2 ^ 31 by omega)]
  generalize hS1 : put (put (put S 29 t v c) 27 t v a) 28 t v l = S1
  have s1 : Same (exB t) S S1 := by rw [← hS1]; exact ((Same.rf.put (by simp [exB])).put (by simp [exB])).put (by simp [exB])
  have r26 : S1 26 0 = S 26 0 := s1 26 0 (by simp [exB])
  have r30 : S1 30 t = S 30 t := by rw [← hS1, put_ne (by omega), put_ne (by omega), put_ne (by omega)]
  have q29 : ∀ u, S1 29 t u = if u = v then c else S 29 t u := fun u => by rw [← hS1, put_ne (by omega), put_ne (by omega), put_jj]
  have q27 : ∀ u, S1 27 t u = if u = v then a else S 27 t u := fun u => by rw [← hS1, put_ne (by omega), put_jj, put_ne (by omega)]
  have q28 : ∀ u, S1 28 t u = if u = v then l else S 28 t u := fun u => by rw [← hS1, put_jj, put_ne (by omega), put_ne (by omega)]
  obtain ⟨S', a1, a2, a3, a4⟩ := c_keepl (t := t) hv 5000 0 S1 (by omega) (by omega) (fun j hj => absurd hj (by omega))
  refine ⟨S', a1, s1.tr (a2.mono (by simp [exB])), ⟨?_, ?_, ?_, fun _ p hp => ?_⟩, fun u hu => ⟨?_, ?_, ?_, fun p hp => ?_⟩⟩
  · rw [a2 29 t (by simp), q29, if_pos rfl]
  · rw [a2 27 t (by simp), q27, if_pos rfl]
  · rw [a2 28 t (by simp), q28, if_pos rfl]
  · rw [a3 p hp, r26]; exact hP p hp
  · rw [a2 29 t (by simp), q29, if_neg hu]
  · rw [a2 27 t (by simp), q27, if_neg hu]
  · rw [a2 28 t (by simp), q28, if_neg hu]
  · rw [a4 _ (by omega), r30]
theorem f_cmp (a b : Int32) (S : St) : f_J6_compare_7cf53 a b S = some (if b ≤ a then (if a = b then 0 else 1) else -1, S) := by
  unfold f_J6_compare_7cf53 j_J6_compare_7cf53_19
  by_cases h : b ≤ a
  · rw [if_pos h, if_pos h]
    by_cases e : a = b
    · rw [if_pos e, if_pos e]
    · rw [if_neg e, if_neg e]
  · rw [if_neg h, if_neg h]
theorem lt_nle {a b : Int32} : a < b ↔ ¬ b ≤ a := by
  rw [Int32.lt_iff_toInt_lt, Int32.le_iff_toInt_le]
  omega
theorem c_cmp2 {t : Nat} {S : St} {a b c d : Int32} : j_X1_isBetter_54 t S (if c ≤ a then (if a = c then 0 else 1) else -1) (if d ≤ b then (if b = d then 0 else 1) else -1) = some (b01 (lexl a b c d), S) := by
  unfold j_X1_isBetter_54 j_X1_isBetter_71 j_X1_isBetter_75 j_X1_isBetter_76 lexl
  rw [gd_t (show bz 1 = true from by decide), gd_t (show bz 0 = true from by decide)]
  by_cases h : c ≤ a
  · rw [if_pos h, decide_eq_false (fun q => (lt_nle.mp q) h)]
    by_cases e : a = c
    · rw [if_pos e, if_neg (by decide), if_pos rfl, decide_eq_true e]
      by_cases h2 : d ≤ b
      · rw [if_pos h2, decide_eq_false (fun q => (lt_nle.mp q) h2)]
        by_cases e2 : b = d
        · rw [if_pos e2, if_pos (by decide)]; rfl
        · rw [if_neg e2, if_pos (by decide)]; rfl
      · rw [if_neg h2, if_neg (by decide), decide_eq_true (lt_nle.mpr h2)]; rfl
    · rw [if_neg e, if_neg (by decide), if_neg (by decide), decide_eq_false e]; rfl
  · rw [if_neg h, if_pos (by decide), decide_eq_true (lt_nle.mpr h)]; rfl
theorem c_isBetter {Q : Cq} {t v : Nat} (hv : v < 160) {x : Bst} {a l : Int32} {S : St} (hm : S 6 t 13 = Q.how) (hb : rB t S v x) : f_X1_isBetter t (nI v) a l S = some (b01 (Q.btr a l x), S) := by
  unfold f_X1_isBetter j_X1_isBetter_38 Cq.btr
  rw [gd_t (ix_nI hv (by decide)), lt_, nI_clamp (show v < 2 ^ 31 by omega), hb.2.1, bi_e (f_cmp _ _ _), gd_t (ix_nI hv (by decide)), lt_, hb.2.2.1, bi_e (f_cmp _ _ _), hm]
  by_cases h : Q.how = 0
  · rw [if_pos h, if_pos h, if_pos h, c_cmp2]
  · rw [if_neg h, if_neg h, if_neg h, c_cmp2]
/-- weigh() -/
theorem c_weigh {Q : Cq} {bs : Nat → Bst} {t v d : Nat} {P : Pns} {x : Bst} {S : St} (h : Q.eC S) (hv : v < Q.g.1) (hd : d < Q.c) (hP : ∀ p, p < 6 → S 26 0 p = P p) (hok : ∀ p, okP Q.g Q.m Q.ov v (P p)) (hm : S 6 t 13 = Q.how) (hb : ∀ u, u < v → rB t S u (bs u)) (hx : rB t S v x) : ∃ S', f_X1_weigh t (nI v) (nI d) S = some S' ∧ Same (exB t) S S' ∧ rB t S' v (Q.wgh bs d P x) ∧ ∀ u, u ≠ v → eB t S S' u := by
  obtain ⟨h1, h2, h3, h4, h5, h6⟩ := id h
  have hd20 : d < 20 := by have := h5.1; omega
  obtain ⟨-, l1, l2, -⟩ := h6.2 d hd
  unfold f_X1_weigh
  rw [gd_t (ix_nI hd20 (by decide)), lt_, nI_clamp (show d < 2 ^ 31 by omega), l1]
  have hl := c_wghl (Q := Q) (t := t) h hv hP hok hb (fun S x1 x2 x3 x4 => gd (ix x2 20) (lt_ ((S 8 x2.toNatClampNeg 5) + x4) (fun v_22 => gd (ix x1 160) (lt_ (S 29 t x1.toNatClampNeg) (fun v_24 => if v_24 = ((-4)) then j_X1_weigh_140 t S x1 x2 x3 v_22 else bi (f_X1_isBetter t x1 x3 v_22 S) (fun r_29 S_30 => if r_29 = 0 then j_X1_weigh_149 t S_30 else j_X1_weigh_140 t S_30 x1 x2 x3 v_22)))))) (nI v) (nI d) (Q.lib d).1 5000 0 (by omega) (by omega) rfl
  rw [show (nI 0 : Int32) = 0 from rfl] at hl
  have hl : l_X1_weigh_19 t _ 5000 S (nI v) (nI d) (Q.lib d).1 0 0 = _ := hl
  rw [hl]
  unfold Cq.wgh
  cases hc : Q.can bs P 6 with
  | false =>
    rw [if_neg (by decide), Bool.false_and, if_neg (by decide)]
    exact ⟨S, rfl, Same.rf, hx, fun u _ => eB.of (fun _ _ => rfl)⟩
  | true =>
    rw [if_pos rfl, Bool.true_and]
    have v160 : v < 160 := by omega
    rw [gd_t (ix_nI hd20 (by decide)), lt_, nI_clamp (show d < 2 ^ 31 by omega), l2, gd_t (ix_nI v160 (by decide)), lt_, nI_clamp (show v < 2 ^ 31 by omega), hx.1]
    generalize (Q.wf bs P (Q.lib d).1 6).1 = a
    generalize (Q.lib d).2.1 + (Q.wf bs P (Q.lib d).1 6).2 = l
    have go : ∃ S', j_X1_weigh_140 t S (nI v) (nI d) a l = some S' ∧ Same (exB t) S S' ∧ rB t S' v (nI d, a, l, P) ∧ ∀ u, u ≠ v → eB t S S' u := by
      obtain ⟨S', k1, k2⟩ := c_keep (t := t) v160 (c := nI d) (a := a) (l := l) hP
      unfold j_X1_weigh_140 j_X1_weigh_149
      rw [bv_e k1]
      exact ⟨S', rfl, k2⟩
    by_cases y : x.1 = -4
    · rw [if_pos y, if_pos (by simp [y])]
      exact go
    · have hy : (x.1 == -4) = false := by rw [beq_eq_false_iff_ne]; exact y
      rw [if_neg y, bi_e (c_isBetter (Q := Q) v160 hm hx), hy, Bool.false_or]
      cases hq : Q.btr a l x with
      | false =>
        rw [if_pos (show b01 false = 0 from rfl), if_neg (by decide)]
        exact ⟨S, rfl, Same.rf, hx, fun u _ => eB.of (fun _ _ => rfl)⟩
      | true =>
        rw [if_neg (show ¬ b01 true = 0 from by decide), if_pos rfl]
        exact go
