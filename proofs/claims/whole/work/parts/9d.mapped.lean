/-! mapped() of both sides -/
def civ (g : Gr) (v : Nat) : Nat := ctB (fun u => (g.2 u).1 == 0) v
def Cq.pbz (Q : Cq) (f : Nat → Int32) (v : Nat) : Nat → Int32
  | 0 => 0
  | p + 1 => if Q.P v p = -4 then Q.pbz f v p else Q.pbz f v p ||| (f (Q.P v p).toNatClampNeg <<< (nI p &&& 31))
def Cq.mv1 (Q : Cq) (b : Int64) (f : Nat → Int32) (v : Nat) : Int32 := if (Q.g.2 v).1 = 0 then bt b (civ Q.g v) else if (Q.dal Q.g.1).contains v = true then b01 (cgv (Q.pbz f v 6) (Q.lib (Q.bs Q.g.1 v).1.toNatClampNeg)) else 0
def Cq.mvF (Q : Cq) (b : Int64) : Nat → Nat → Int32
  | 0 => fun _ => 0
  | v + 1 => fun u => if u = v then Q.mv1 b (Q.mvF b v) v else Q.mvF b v u
theorem Cq.mvF_at (Q : Cq) (b : Int64) (v : Nat) : Q.mvF b (v + 1) v = Q.mv1 b (Q.mvF b v) v := if_pos rfl
theorem Cq.mvF_ne {Q : Cq} {b : Int64} {v u : Nat} (h : u ≠ v) : Q.mvF b (v + 1) u = Q.mvF b v u := if_neg h
def Cq.gd (Q : Cq) (v : Nat) : Prop := (Q.g.2 v).1 = 0 ∨ (Q.dal Q.g.1).contains v = true
/-- what a listed one reads is an INPUT or listed -/
theorem Cq.gd_pin {Q : Cq} (h : Q.ok) {v : Nat} (hv : (Q.dal Q.g.1).contains v = true) {p : Nat} (hp : p < 6) : Q.P v p = -4 ∨ ∃ u, u < v ∧ Q.P v p = nI u ∧ Q.gd u := by
  have hm : v ∈ Q.dal Q.g.1 := by simpa using hv
  obtain ⟨va, vb⟩ := Q.dal_m h hm
  obtain ⟨d, t, c1, c2, c3, c4, c5, c6, c7, c8⟩ := Q.has_m h va vb
  obtain ⟨⟨hi, hr⟩, hall⟩ := Q.dal_ok h Q.g.1 (Nat.le_refl _)
  have hg := h.2.1
  rcases c8 p hp with z | ⟨u, u1, u2, u3, u4⟩
  · exact Or.inl z
  · refine Or.inr ⟨u, u1, u3, ?_⟩
    by_cases f0 : (Q.g.2 u).1 = 0
    · exact Or.inl f0
    · right
      cases hq : Q.rt u with
      | true =>
        have := hall u (by omega) hq
        simpa using this
      | false =>
        have hcl : (Q.P v p).toNatClampNeg = u := by rw [u3, nI_clamp (by omega)]
        have hin : Q.inP (Q.P v p) = true := by
          unfold Cq.inP
          rw [hcl, u3, m4_nI (by omega), hq]
          simp [f0]
        have := Q.chs_i hin (n := 6) (Nat.le_refl 6) (by omega) hp
        rw [hcl] at this
        have := hi.2.2 v hm u this
        simpa using this
theorem c_pvl {Q : Cq} (h : Q.ok) {v : Nat} (hv : (Q.dal Q.g.1).contains v = true) {S : St} (hb : Q.bC 0 S) {F : Nat → Int32} (hF : ∀ u, u < v → Q.gd u → S 34 0 u = F u) : ∀ (f p : Nat), p ≤ 6 → 6 - p < f → l_X1_pinValues_4 0 f S (nI v) (Q.pbz F v p) (nI p) = some (Q.pbz F v 6, S) := by
  have hm : v ∈ Q.dal Q.g.1 := by simpa using hv
  obtain ⟨va, vb⟩ := Q.dal_m h hm
  have hg := h.2.1
  intro f
  induction f with
  | zero => intro p _ h; exact absurd h (by omega)
  | succ f ih =>
    intro p hp hf
    rw [show l_X1_pinValues_4 0 (f + 1) = b_X1_pinValues_4 0 (l_X1_pinValues_4 0 f) from rfl]
    unfold b_X1_pinValues_4 j_X1_pinValues_37
    by_cases e : p = 6
    · subst e
      rw [if_pos (show (6 : Int32) ≤ nI 6 from by decide)]
    · have ih := ih (p + 1) (by omega) (by omega)
      rw [if_neg (show ¬ (6 : Int32) ≤ nI p from nI_ge (b := 6) (show p < 6 by omega) (by decide)), bi_e (c_pinOf hb va hg vb (show p < 6 by omega))]
      rcases Q.gd_pin h hv (show p < 6 by omega) with z | ⟨u, u1, u2, u3⟩
      · rw [Cq.pbz, if_pos z] at ih
        rw [if_pos z, lt_, nI_1]
        exact ih
      · have n4 : ¬ Q.P v p = -4 := by rw [u2]; exact nI_m4 (by omega)
        rw [Cq.pbz, if_neg n4, u2, nI_clamp (show u < 2 ^ 31 by omega)] at ih
        rw [if_neg n4, u2, gd_t (ix_nI (show u < 160 by omega) (by decide)), lt_, nI_clamp (show u < 2 ^ 31 by omega), hF u u1 u3, lt_, lt_, nI_1]
        exact ih
theorem c_wkl {Q : Cq} (h : Q.ok) (hci : ∀ v, v ≤ Q.g.1 → civ Q.g v < 64) (b : Int64) : ∀ (f v : Nat) (S : St), v ≤ Q.g.1 → Q.g.1 - v < f → Q.eC S → Q.bC 0 S → (∀ u, u < Q.g.1 → S 32 0 u = b01 ((Q.dal Q.g.1).contains u)) → (∀ u, u < v → Q.gd u → S 34 0 u = Q.mvF b v u) → ∃ S', l_X1_work_5 0 f S (rs b (civ Q.g v)) (nI v) = some S' ∧ Same [(34, 0)] S S' ∧ ∀ u, u < Q.g.1 → Q.gd u → S' 34 0 u = Q.mvF b Q.g.1 u := by
  have hg := h.2.1
  intro f
  induction f with
  | zero => intro v S _ h; exact absurd h (by omega)
  | succ f ih =>
    intro v S hv hf hE hb h32 hF
    rw [show l_X1_work_5 0 (f + 1) = b_X1_work_5 0 (l_X1_work_5 0 f) from rfl]
    unfold b_X1_work_5
    rw [hE.2.2.1.1]
    by_cases e : v = Q.g.1
    · rw [e, if_pos (nI_le (Nat.le_refl _) (by omega))]
      exact ⟨S, rfl, Same.rf, by rw [← e]; exact hF⟩
    · have hlt : v < Q.g.1 := by omega
      have hix : ix (nI v) 160 = true := ix_nI (by omega) (by decide)
      have hcl : (nI v).toNatClampNeg = v := nI_clamp (by omega)
      have e0 : (nI (Q.g.2 v).1 = 0) ↔ ((Q.g.2 v).1 = 0) := Eq.to_iff (nI_inj (b := 0) (by have := (h.1 v hlt).1; omega) (by decide))
      rw [if_neg (nI_ge hlt (by omega)), gd_t hix, lt_, hcl, (hE.2.2.1.2 v hlt).1]
      have c0 : (Q.g.2 v).1 = 0 → civ Q.g (v + 1) = civ Q.g v + 1 := fun z => by unfold civ; rw [ctB]; simp [z]
      have c1 : (Q.g.2 v).1 ≠ 0 → civ Q.g (v + 1) = civ Q.g v := fun z => by unfold civ; rw [ctB]; simp [z]
      -- the value is laid, or nothing is
      have fin : ∀ S1 y, Same [(34, 0)] S S1 → y = rs b (civ Q.g (v + 1)) → (∀ u, u < v + 1 → Q.gd u → S1 34 0 u = Q.mvF b (v + 1) u) → ∃ S', j_X1_work_106 0 (l_X1_work_5 0 f) S1 y (nI v) = some S' ∧ Same [(34, 0)] S S' ∧ ∀ u, u < Q.g.1 → Q.gd u → S' 34 0 u = Q.mvF b Q.g.1 u := by
        intro S1 y s1 hy hF1
        unfold j_X1_work_106
        rw [lt_, nI_1, hy]
        obtain ⟨S', a1, a2, a3⟩ := ih (v + 1) S1 (by omega) (by omega) (hE.same s1 (by simp [ksE])) (fun u hu => (hb u hu).eB (eB.of (fun k hk => s1 k 0 (by rcases hk with rfl | rfl | rfl | rfl <;> decide)))) (fun u hu => by rw [s1 32 0 (by decide)]; exact h32 u hu) hF1
        exact ⟨S', a1, s1.tr a2, a3⟩
      have lay : ∀ x, x = Q.mv1 b (Q.mvF b v) v → ∀ u, u < v + 1 → Q.gd u → put S 34 0 v x 34 0 u = Q.mvF b (v + 1) u := fun x hx u hu hgd => by
        rw [put_jj]
        by_cases z : u = v
        · rw [if_pos z, z, Cq.mvF_at, hx]
        · rw [if_neg z, Cq.mvF_ne z]; exact hF u (by omega) hgd
      by_cases f0 : (Q.g.2 v).1 = 0
      · have := hci v hv
        rw [if_pos (e0.mpr f0), gd_t hix, lt_, lt_]
        exact fin _ _ (Same.rf.put (by simp)) (by rw [c0 f0]; rfl) (lay _ (by unfold Cq.mv1; rw [if_pos f0]; exact rs_bt b (by omega)))
      · rw [if_neg (fun q => f0 (e0.mp q)), gd_t hix, lt_, h32 v hlt]
        cases hq : (Q.dal Q.g.1).contains v with
        | false =>
          rw [if_pos (show b01 false = 0 from rfl)]
          refine fin S _ Same.rf (by rw [c1 f0]) (fun u hu hgd => ?_)
          have ne : u ≠ v := fun z => by
            rw [z] at hgd
            rcases hgd with q | q
            · exact f0 q
            · rw [hq] at q; cases q
          rw [Cq.mvF_ne ne]
          exact hF u (by omega) hgd
        | true =>
          have hm : v ∈ Q.dal Q.g.1 := by simpa using hq
          obtain ⟨va, vb⟩ := Q.dal_m h hm
          obtain ⟨d, t, d1, d2, d3, d4, d5, d6, d7, d8⟩ := Q.has_m h va vb
          have hL := h.2.2.1
          have d20 : d < 20 := by have := hL.1; omega
          have r29 : S 29 0 v = nI d := by rw [(hb v va).1]; exact d4
          have hhas : f_X3_has (nI d) S = some (b01 true, S) := by
            have := c_has hE.2.2.2.2.1.1 hE.2.2.2.2.2 (nI d)
            rw [inR_nI (by omega), nI_clamp (show d < 2 ^ 31 by omega), decide_eq_true d1, d2] at this
            exact this
          have hpv : f_X1_pinValues 0 (nI v) S = some (Q.pbz (Q.mvF b v) v 6, S) := c_pvl h hq hb hF 5000 0 (by omega) (by omega)
          rw [if_neg (show ¬ b01 true = 0 from by decide), gd_t hix, lt_, r29, bi_e hhas, if_neg (show ¬ b01 true = 0 from by decide), gd_t hix, lt_, r29, gd_t (ix_nI d20 (by decide)), bi_e hpv, nI_clamp (show d < 2 ^ 31 by omega), bi_e (c_valueFor (hL.2 d d1) (hE.2.2.2.2.2.2 d d1).1 _), gd_t hix, lt_]
          exact fin _ _ (Same.rf.put (by simp)) (by rw [c1 f0]) (lay _ (by unfold Cq.mv1; rw [if_neg f0, if_pos hq, d4, nI_clamp (show d < 2 ^ 31 by omega)]))
/-- an output's vertex is an INPUT or listed -/
theorem cnt_pos {ov : Nat → Nat} : ∀ {m o : Nat}, o < m → cnt ov m (ov o) ≠ 0
  | 0, o, h => absurd h (by omega)
  | m + 1, o, h => by
    rw [cnt]
    by_cases e : o = m
    · rw [e, if_pos rfl]; omega
    · have := cnt_pos (ov := ov) (m := m) (o := o) (by omega)
      omega
theorem Cq.gd_out {Q : Cq} (h : Q.ok) {o : Nat} (ho : o < Q.m) (hv : Q.ov o < Q.g.1) : Q.gd (Q.ov o) := by
  by_cases f0 : (Q.g.2 (Q.ov o)).1 = 0
  · exact Or.inl f0
  · right
    have hc := cnt_pos (ov := Q.ov) ho
    have hU : UU Q.g Q.m Q.ov (Q.ov o) ≠ 0 := by
      rw [UU_sum h.1 Q.m Q.ov (Q.ov o)]; omega
    have hr : Q.rt (Q.ov o) = true := by
      unfold Cq.rt rts
      simp [hU, f0, hc]
    have := (Q.dal_ok h Q.g.1 (Nat.le_refl _)).2 _ hv hr
    simpa using this
theorem c_mp23 {g : Gr} {m : Nat} {ov : Nat → Nat} {S : St} (hO : OV m g.1 ov S) {F : Nat → Int32} (hF : ∀ o, o < m → S 34 0 (ov o) = F (ov o)) : ∀ (f o : Nat), o ≤ m → m - o < f → l_X8_mapped_23 f S (orv F ov o) (nI o) = some (orv F ov m, S) := by
  have hm := hO.2.1
  have hg := hO.2.2.1
  intro f
  induction f with
  | zero => intro o _ h; exact absurd h (by omega)
  | succ f ih =>
    intro o ho hf
    rw [show l_X8_mapped_23 (f + 1) = b_X8_mapped_23 (l_X8_mapped_23 f) from rfl]
    unfold b_X8_mapped_23
    rw [hO.1]
    by_cases e : o = m
    · rw [e, if_pos (nI_le (Nat.le_refl _) (by omega))]
    · obtain ⟨o1, -⟩ := hO.2.2.2 o (by omega)
      rw [if_neg (nI_ge (show o < m by omega) (by omega)), bi_e (hO.get (show o < m by omega)), gd_t (ix_nI (show ov o < 160 by omega) (by decide)), lt_, nI_clamp (show ov o < 2 ^ 31 by omega), hF o (by omega), lt_, lt_, nI_1]
      exact ih (o + 1) (by omega) (by omega)
def mpA (g : Gr) (m : Nat) (ov : Nat → Nat) (c : Nat) (lib : Nat → Cel) (th : Nat → Bool) (cv : Option Int32) (b : Int64) : Int32 := match cv with
  | none => -2
  | some how => orv ((Qc g m ov c lib th how).mvF b g.1) ov m
theorem X_mapped {g : Gr} {m : Nat} {ov : Nat → Nat} {c : Nat} {lib : Nat → Cel} {th : Nat → Bool} {cv : Option Int32} {S : St} (h : EvC g m ov c lib th S) (hO : OV m g.1 ov S) (hci : ∀ v, v ≤ g.1 → civ g v < 64) (hC : CvC g m ov c lib th cv S) (b : Int64) : ∃ S', f_X8_mapped b S = some (mpA g m ov c lib th cv b, S') ∧ Same [(34, 0)] S S' := by
  unfold f_X8_mapped mpA
  cases cv with
  | none => rw [if_pos hC.z]; exact ⟨S, rfl, Same.rf⟩
  | some how =>
    obtain ⟨ho, hb, hl, hm⟩ := hC.2 how rfl
    have g160 := h.1
    have hm8 := hO.2.1
    obtain ⟨S', a1, a2, a3⟩ := c_wkl ho hci b 5000 0 S (by omega) (by
      have : (Qc g m ov c lib th how).g.1 = g.1 := rfl
      omega) h hb hl.2.2.1 (fun u hu => absurd hu (by omega))
    have a1 : f_X1_work 0 b S = some S' := a1
    rw [if_neg hC.o, bv_e a1]
    have hr := c_mp23 (g := g) (ov := ov) (S := S') (F := (Qc g m ov c lib th how).mvF b g.1) (hO.same (a2 2 0 (by decide)) (a2 20 0 (by decide)) (a2 22 0 (by decide))) (fun o ho' => a3 (ov o) (hO.2.2.2 o ho').1 ((Qc g m ov c lib th how).gd_out ho ho' (hO.2.2.2 o ho').1)) 5000 0 (by omega) (by omega)
    have hr : l_X8_mapped_23 5000 S' 0 0 = _ := hr
    rw [hr]
    exact ⟨S', rfl, a2⟩
/-- the reference -/
theorem m_mp77 {Q : Cq} (h : Q.ok) {v : Nat} (hv : (Q.dal Q.g.1).contains v = true) {T : St} (hb : Q.bM 0 T) {F : Nat → Int32} (hF : ∀ u, u < v → T 38 0 u = F u) (K : St → Int64 → Int32 → Int32 → Int32 → Option (Int32 × St)) (x1 : Int64) (x3 : Int32) : ∀ (f p : Nat), p ≤ 6 → 6 - p < f → l_X9_mapped_77 K f T x1 x3 (nI v) (Q.pbz F v p) (nI p) = K T x1 x3 (nI v) (Q.pbz F v 6) := by
  have hm : v ∈ Q.dal Q.g.1 := by simpa using hv
  obtain ⟨va, vb⟩ := Q.dal_m h hm
  have hg := h.2.1
  intro f
  induction f with
  | zero => intro p _ h; exact absurd h (by omega)
  | succ f ih =>
    intro p hp hf
    rw [show l_X9_mapped_77 K (f + 1) = b_X9_mapped_77 (l_X9_mapped_77 K f) K from rfl]
    unfold b_X9_mapped_77 j_X9_mapped_122
    by_cases e : p = 6
    · subst e
      rw [if_pos (show (6 : Int32) ≤ nI 6 from by decide)]
    · have ih := ih (p + 1) (by omega) (by omega)
      have hr := (hb v va).2.2.2.2 p (by omega)
      rw [show 200 * 0 + v = v from by omega] at hr
      have hr : T 34 0 (6 * v + p) = Q.P v p := hr
      rw [if_neg (show ¬ (6 : Int32) ≤ nI p from nI_ge (b := 6) (show p < 6 by omega) (by decide)), show 6 * nI v + nI p = nI (6 * v + p) from by rw [show (6 : Int32) = nI 6 from rfl, pk_mul, nI_add], gd_t (ix_nI (show 6 * v + p < 2400 by omega) (by decide)), lt_, nI_clamp (show 6 * v + p < 2 ^ 31 by omega), hr]
      rcases Q.gd_pin h hv (show p < 6 by omega) with z | ⟨u, u1, u2, u3⟩
      · rw [Cq.pbz, if_pos z] at ih
        rw [if_pos z, lt_, lt_, nI_1, Int32.or_zero]
        exact ih
      · have n4 : ¬ Q.P v p = -4 := by rw [u2]; exact nI_m4 (by omega)
        rw [Cq.pbz, if_neg n4, u2, nI_clamp (show u < 2 ^ 31 by omega)] at ih
        rw [if_neg n4, u2, gd_t (ix_nI (show u < 200 by omega) (by decide)), lt_, nI_clamp (show u < 2 ^ 31 by omega), hF u u1, lt_, lt_, nI_1]
        exact ih
theorem m_mp15 {Q : Cq} (h : Q.ok) (b : Int64) (K : St → Option (Int32 × St)) : ∀ (f v : Nat) (T : St), v ≤ Q.g.1 → Q.g.1 - v < f → Q.eM T → Q.bM 0 T → (∀ u, u < Q.g.1 → T 36 0 u = b01 ((Q.dal Q.g.1).contains u)) → (∀ u, u < v → T 38 0 u = Q.mvF b v u) → ∃ T', l_X9_mapped_15 K f T b (nI (civ Q.g v)) (nI v) = K T' ∧ Same [(38, 0), (39, 0)] T T' ∧ ∀ u, u < Q.g.1 → T' 38 0 u = Q.mvF b Q.g.1 u := by
  have hg := h.2.1
  intro f
  induction f with
  | zero => intro v T _ h; exact absurd h (by omega)
  | succ f ih =>
    intro v T hv hf hE hb h36 hF
    rw [show l_X9_mapped_15 K (f + 1) = b_X9_mapped_15 (l_X9_mapped_15 K f) K from rfl]
    unfold b_X9_mapped_15
    rw [hE.2.2.1.1]
    by_cases e : v = Q.g.1
    · rw [e, if_pos (nI_le (Nat.le_refl _) (by omega))]
      exact ⟨T, rfl, Same.rf, by rw [← e]; exact hF⟩
    · have hlt : v < Q.g.1 := by omega
      have hix : ix (nI v) 200 = true := ix_nI (by omega) (by decide)
      have hcl : (nI v).toNatClampNeg = v := nI_clamp (by omega)
      have e0 : (nI (Q.g.2 v).1 = 0) ↔ ((Q.g.2 v).1 = 0) := Eq.to_iff (nI_inj (b := 0) (by have := (h.1 v hlt).1; omega) (by decide))
      have c0 : (Q.g.2 v).1 = 0 → civ Q.g (v + 1) = civ Q.g v + 1 := fun z => by unfold civ; rw [ctB]; simp [z]
      have c1 : (Q.g.2 v).1 ≠ 0 → civ Q.g (v + 1) = civ Q.g v := fun z => by unfold civ; rw [ctB]; simp [z]
      generalize hT0 : put T 38 0 v 0 = T0
      have s0 : Same [(38, 0), (39, 0)] T T0 := by rw [← hT0]; exact Same.rf.put (by simp)
      have hF0 : ∀ u, u < v → T0 38 0 u = Q.mvF b v u := fun u hu => by rw [← hT0, put_j (by omega)]; exact hF u hu
      rw [if_neg (nI_ge hlt (by omega)), gd_t hix, lt_, hcl, hT0, gd_t hix, lt_]
      have r8 : T0 8 0 v = nI (Q.g.2 v).1 := by rw [s0 8 0 (by decide)]; exact (hE.2.2.1.2 v hlt).1
      have r36 : T0 36 0 v = b01 ((Q.dal Q.g.1).contains v) := by rw [s0 36 0 (by decide)]; exact h36 v hlt
      have ev : ∀ T1, Same [(38, 0), (39, 0)] T T1 → Q.eM T1 ∧ Q.bM 0 T1 := fun T1 s1 => ⟨EvM.keep hE (fun k hk _ => s1 k 0 (fun hm => by
          have : ∀ q ∈ [(38, 0), (39, 0)], q.1 ∉ ksM := by decide
          exact this _ hm hk)) (by rw [s1 0 0 (by decide)]) (by rw [s1 0 0 (by decide)]), fun u hu => (hb u hu).eM (eM.of (fun k hk => s1 k 0 (by rcases hk with rfl | rfl | rfl | rfl | rfl <;> decide)))⟩
      -- the value is laid
      have fin : ∀ T1 y, Same [(38, 0), (39, 0)] T T1 → y = nI (civ Q.g (v + 1)) → (∀ u, u < v + 1 → T1 38 0 u = Q.mvF b (v + 1) u) → ∃ T', j_X9_mapped_151 (l_X9_mapped_15 K f) K T1 b y (nI v) = K T' ∧ Same [(38, 0), (39, 0)] T T' ∧ ∀ u, u < Q.g.1 → T' 38 0 u = Q.mvF b Q.g.1 u := by
        intro T1 y s1 hy hF1
        unfold j_X9_mapped_151
        rw [lt_, nI_1, hy]
        obtain ⟨T', a1, a2, a3⟩ := ih (v + 1) T1 (by omega) (by omega) (ev T1 s1).1 (ev T1 s1).2 (fun u hu => by rw [s1 36 0 (by decide)]; exact h36 u hu) hF1
        exact ⟨T', a1, s1.tr a2, a3⟩
      have lay : ∀ T1 x, (∀ u, u < v → T1 38 0 u = Q.mvF b v u) → x = Q.mv1 b (Q.mvF b v) v → ∀ u, u < v + 1 → put T1 38 0 v x 38 0 u = Q.mvF b (v + 1) u := fun T1 x hF1 hx u hu => by
        rw [put_jj]
        by_cases z : u = v
        · rw [if_pos z, z, Cq.mvF_at, hx]
        · rw [if_neg z, Cq.mvF_ne z]; exact hF1 u (by omega)
      rw [r8]
      by_cases f0 : (Q.g.2 v).1 = 0
      · rw [if_pos (e0.mpr f0), gd_t hix, lt_, lt_, nI_1]
        exact fin _ _ (s0.put (by simp)) (by rw [c0 f0]) (lay T0 _ hF0 (by unfold Cq.mv1; rw [if_pos f0]; rfl))
      · rw [if_neg (fun q => f0 (e0.mp q)), gd_t hix, lt_, r36]
        cases hq : (Q.dal Q.g.1).contains v with
        | false =>
          rw [if_pos (show b01 false = 0 from rfl)]
          refine fin T0 _ s0 (by rw [c1 f0]) (fun u hu => ?_)
          rw [← hT0]
          exact lay T 0 hF (by unfold Cq.mv1; rw [if_neg f0, if_neg (by rw [hq]; decide)]) u hu
        | true =>
          have hm : v ∈ Q.dal Q.g.1 := by simpa using hq
          obtain ⟨va, vb⟩ := Q.dal_m h hm
          obtain ⟨d, t, d1, d2, d3, d4, d5, d6, d7, d8⟩ := Q.has_m h va vb
          have hL := h.2.2.1
          have d20 : d < 20 := by have := hL.1; omega
          rw [if_neg (show ¬ b01 true = 0 from by decide)]
          obtain ⟨hE0, hb0⟩ := ev T0 s0
          have h77 := m_mp77 h hq hb0 hF0 (fun S x1 x3 x4 x5 => gd (ix x4 400) (lt_ (S 33 0 x4.toNatClampNeg) (fun v_21 => bi (f_X9_cellGives v_21 x5 S) (fun r_23 S_24 => gd (ix x4 200) (lt_ (put S_24 38 0 x4.toNatClampNeg r_23) (fun S_26 => j_X9_mapped_151 (l_X9_mapped_15 K f) K S_26 x1 x3 x4)))))) b (nI (civ Q.g v)) 5000 0 (by omega) (by omega)
          have h77 : l_X9_mapped_77 _ 5000 T0 b (nI (civ Q.g v)) (nI v) 0 0 = _ := h77
          have r33 : T0 33 0 v = nI d := by
            have := (hb0 v va).2.2.2.1
            rw [show 200 * 0 + v = v from by omega] at this
            rw [this]; exact d4
          obtain ⟨l0, -, -, l3, -⟩ := hE0.2.2.2.2.2.2 d d1
          obtain ⟨T1, g1, g2⟩ := m_cellGives d20 (hL.2 d d1) l0 l3 (Q.pbz (Q.mvF b v) v 6)
          rw [h77, gd_t (ix_nI (show v < 400 by omega) (by decide)), lt_, hcl, r33, bi_e g1, gd_t hix, lt_]
          refine fin _ _ ((s0.tr (g2.mono (by simp))).put (by simp)) (by rw [c1 f0]) (lay T1 _ (fun u hu => by rw [g2 38 0 (by decide)]; exact hF0 u hu) (by unfold Cq.mv1; rw [if_neg f0, if_pos hq, d4, nI_clamp (show d < 2 ^ 31 by omega)]))
theorem m_mp163 {g : Gr} {m : Nat} {ov : Nat → Nat} {T : St} (hO : OVM m g.1 ov T) {F : Nat → Int32} (hF : ∀ o, o < m → T 38 0 (ov o) = F (ov o)) : ∀ (f o : Nat), o ≤ m → m - o < f → l_X9_mapped_163 f T (orv F ov o) (nI o) = some (orv F ov m, T) := by
  have hm := hO.2.1
  have hg := hO.2.2.1
  intro f
  induction f with
  | zero => intro o _ h; exact absurd h (by omega)
  | succ f ih =>
    intro o ho hf
    rw [show l_X9_mapped_163 (f + 1) = b_X9_mapped_163 (l_X9_mapped_163 f) from rfl]
    unfold b_X9_mapped_163
    rw [hO.1]
    by_cases e : o = m
    · rw [e, if_pos (nI_le (Nat.le_refl _) (by omega))]
    · obtain ⟨o1, k, k1, k2, k3⟩ := hO.2.2.2 o (by omega)
      rw [if_neg (nI_ge (show o < m by omega) (by omega)), gd_t (ix_nI (show o < 8 by omega) (by decide)), lt_, nI_clamp (show o < 2 ^ 31 by omega), k2, gd_t (ix_nI k1 (by decide)), lt_, nI_clamp (show k < 2 ^ 31 by omega), k3, gd_t (ix_nI (show ov o < 200 by omega) (by decide)), lt_, nI_clamp (show ov o < 2 ^ 31 by omega), hF o (by omega), lt_, lt_, nI_1]
      exact ih (o + 1) (by omega) (by omega)
theorem M_mapped {g : Gr} {m : Nat} {ov : Nat → Nat} {c : Nat} {lib : Nat → Cel} {th : Nat → Bool} {cv : Option Int32} {T : St} (h : EvM g m ov c lib th T) (hO : OVM m g.1 ov T) (hC : CvM g m ov c lib th cv T) (hok : ∀ how, cv = some how → (Qc g m ov c lib th how).ok) (b : Int64) : ∃ T', f_X9_mapped b T = some (mpA g m ov c lib th cv b, T') ∧ Same [(38, 0), (39, 0)] T T' := by
  unfold f_X9_mapped mpA
  cases cv with
  | none => rw [if_pos hC.z]; exact ⟨T, rfl, Same.rf⟩
  | some how =>
    obtain ⟨hb, hl, -, -⟩ := hC.2 how rfl
    have ho := hok how rfl
    have g160 := h.1
    have hm8 := hO.2.1
    obtain ⟨T', a1, a2, a3⟩ := m_mp15 ho b (fun S => l_X9_mapped_163 5000 S 0 0) 5000 0 T (by omega) (by
      have : (Qc g m ov c lib th how).g.1 = g.1 := rfl
      omega) h hb hl.2.2 (fun u hu => absurd hu (by omega))
    have a1 : l_X9_mapped_15 (fun S => l_X9_mapped_163 5000 S 0 0) 5000 T b 0 0 = _ := a1
    rw [if_neg hC.o, a1]
    have hr := m_mp163 (g := g) (ov := ov) (T := T') (F := (Qc g m ov c lib th how).mvF b g.1) (hO.same (by rw [a2 0 0 (by decide)]) (a2 5 0 (by decide)) (a2 11 0 (by decide))) (fun o ho' => a3 (ov o) (hO.2.2.2 o ho').1) 5000 0 (by omega) (by omega)
    have hr : l_X9_mapped_163 5000 T' 0 0 = _ := hr
    rw [hr]
    exact ⟨T', rfl, a2⟩
