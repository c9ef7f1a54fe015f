/-! about, count, digest of both sides -/
def abA (c : Nat) (lib : Nat → Cel) (th : Nat → Bool) (x w y : Int32) : Int32 := if (inR x c && th x.toNatClampNeg) = false then -1 else if w = 0 then (lib x.toNatClampNeg).1 else if w = 1 then (lib x.toNatClampNeg).2.1 else if w = 2 then nI (lib x.toNatClampNeg).2.2.1 else if w = 3 then pbs (lib x.toNatClampNeg).2.2.2 (lib x.toNatClampNeg).2.2.1 else if w = 4 then (if inR y 64 = true then b01 (cgv y (lib x.toNatClampNeg)) else -1) else -1
theorem X_about {c : Nat} {lib : Nat → Cel} {th : Nat → Bool} {S : St} (hL : WfL c lib) (h : PlC c lib th S) (x w y : Int32) : f_X8_about x w y S = some (abA c lib th x w y, S) := by
  unfold f_X8_about j_X8_about_94 j_X8_about_104 abA
  rw [bi_e (c_has hL.1 h x)]
  cases hq : (inR x c && th x.toNatClampNeg) with
  | false => rw [if_pos (show b01 false = 0 from rfl), if_pos rfl]
  | true =>
    obtain ⟨d, hd, rfl⟩ := inR_t (Bool.and_eq_true_iff.mp hq).1 (by have := hL.1; omega)
    have d20 := hL.1
    obtain ⟨hc, l1, l2, l3⟩ := h.2 d hd
    rw [if_neg (show ¬ b01 true = 0 from by decide), if_neg (show ¬ true = false from by decide), gd_t (ix_nI (show d < 20 by omega) (by decide)), nI_clamp (show d < 2 ^ 31 by omega), l1, l2, hc.1, hc.2.2.1]
    by_cases w0 : w = 0
    · rw [if_pos w0, if_pos w0]
    · rw [if_neg w0, if_neg w0]
      by_cases w1 : w = 1
      · rw [if_pos w1, if_pos w1]
      · rw [if_neg w1, if_neg w1]
        by_cases w2 : w = 2
        · rw [if_pos w2, if_pos w2]
        · rw [if_neg w2, if_neg w2]
          by_cases w3 : w = 3
          · rw [if_pos w3, if_pos w3]
          · rw [if_neg w3, if_neg w3]
            by_cases w4 : w = 4
            · rw [if_pos w4, if_pos w4]
              cases hy : inR y 64 with
              | false =>
                rw [if_neg (show ¬ false = true from by decide)]
                by_cases y0 : y < 0
                · rw [if_pos y0]
                · rw [if_neg y0, if_neg (fun q => by
                    have h1 : ¬ y.toInt < 0 := fun q => y0 (lt_0I.mpr q)
                    have h2 := (c_lts (n := 64) (by decide)).mp q
                    have := of_decide_eq_false hy
                    omega)]
              | true =>
                have hy' := of_decide_eq_true hy
                rw [if_pos rfl, if_neg (fun q => by
                    have := lt_0I.mp q
                    omega), if_pos (show y < 64 from (c_lts (n := 64) (by decide)).mpr hy'.2), bi_e (c_valueFor (hL.2 d hd) hc y)]
            · rw [if_neg w4, if_neg w4]
theorem M_about {c : Nat} {lib : Nat → Cel} {th : Nat → Bool} {T : St} (hL : WfL c lib) (h : PlM c lib th T) (x w y : Int32) : ∃ T', f_X9_about x w y T = some (abA c lib th x w y, T') ∧ Same [(39, 0)] T T' := by
  unfold f_X9_about j_X9_about_37 abA
  rw [bi_e (m_isCell hL.1 h x)]
  cases hq : (inR x c && th x.toNatClampNeg) with
  | false => rw [if_pos (show b01 false = 0 from rfl), if_pos rfl]; exact ⟨T, rfl, Same.rf⟩
  | true =>
    obtain ⟨d, hd, rfl⟩ := inR_t (Bool.and_eq_true_iff.mp hq).1 (by have := hL.1; omega)
    have d20 := hL.1
    obtain ⟨hc, l1, l2, l3, l4⟩ := h.2 d hd
    have e4 : f_X9_in w.toInt64 0 4 T = some (b01 (inR w 5), T) := by
      rw [f_in, i64_of, show (0 : Int64).toInt = 0 from by decide, show (4 : Int64).toInt = 4 from by decide]
      congr 3
      unfold inR
      exact decide_eq_decide.mpr (by omega)
    have e63 : f_X9_in y.toInt64 0 63 T = some (b01 (inR y 64), T) := by
      rw [f_in, i64_of, show (0 : Int64).toInt = 0 from by decide, show (63 : Int64).toInt = 63 from by decide]
      congr 3
      unfold inR
      exact decide_eq_decide.mpr (by omega)
    have hix := ix_nI (show d < 20 by omega) (by decide)
    rw [if_neg (show ¬ b01 true = 0 from by decide), if_neg (show ¬ true = false from by decide), bi_e e4, nI_clamp (show d < 2 ^ 31 by omega)]
    cases hw : inR w 5 with
    | false =>
      have nw : ∀ k : Int32, inR k 5 = true → ¬ w = k := fun k hk e => by rw [e, hk] at hw; cases hw
      rw [if_pos (show b01 false = 0 from rfl), if_neg (nw 0 (by decide)), if_neg (nw 1 (by decide)), if_neg (nw 2 (by decide)), if_neg (nw 3 (by decide)), if_neg (nw 4 (by decide))]
      exact ⟨T, rfl, Same.rf⟩
    | true =>
      rw [if_neg (show ¬ b01 true = 0 from by decide)]
      unfold j_X9_about_39
      by_cases w4 : w = 4
      · subst w4
        rw [if_pos rfl, bi_e e63, if_neg (show ¬ (4 : Int32) = 0 from by decide), if_neg (show ¬ (4 : Int32) = 1 from by decide), if_neg (show ¬ (4 : Int32) = 2 from by decide), if_neg (show ¬ (4 : Int32) = 3 from by decide), if_neg (show ¬ (4 : Int32) = 0 from by decide), if_neg (show ¬ (4 : Int32) = 1 from by decide), if_neg (show ¬ (4 : Int32) = 2 from by decide), if_neg (show ¬ (4 : Int32) = 3 from by decide), if_pos rfl]
        cases hy : inR y 64 with
        | false => rw [if_pos (show b01 false = 0 from rfl), if_neg (show ¬ false = true from by decide)]; exact ⟨T, rfl, Same.rf⟩
        | true =>
          obtain ⟨T', a1, a2⟩ := m_cellGives (show d < 20 by omega) (hL.2 d hd) hc l3 y
          rw [if_neg (show ¬ b01 true = 0 from by decide), if_pos rfl, bi_e a1]
          exact ⟨T', rfl, a2⟩
      · rw [if_neg w4, if_neg w4, gd_t hix, lt_, gd_t hix, lt_, gd_t hix, lt_, gd_t hix, lt_, nI_clamp (show d < 2 ^ 31 by omega), l1, l2, l3, hc.2.1]
        by_cases w0 : w = 0
        · rw [if_pos w0, if_pos w0]; exact ⟨T, rfl, Same.rf⟩
        · rw [if_neg w0, if_neg w0]
          by_cases w1 : w = 1
          · rw [if_pos w1, if_pos w1]; exact ⟨T, rfl, Same.rf⟩
          · rw [if_neg w1, if_neg w1]
            by_cases w2 : w = 2
            · rw [if_pos w2, if_pos w2]; exact ⟨T, rfl, Same.rf⟩
            · rw [if_neg w2, if_neg w2]
              have w3 : w = 3 := by
                obtain ⟨k, hk, rfl⟩ := inR_t hw (by omega)
                have n0 : k ≠ 0 := fun e => w0 (by rw [e]; rfl)
                have n1 : k ≠ 1 := fun e => w1 (by rw [e]; rfl)
                have n2 : k ≠ 2 := fun e => w2 (by rw [e]; rfl)
                have n4 : k ≠ 4 := fun e => w4 (by rw [e]; rfl)
                have : k = 3 := by omega
                rw [this]; rfl
              rw [if_pos w3, if_pos w3]; exact ⟨T, rfl, Same.rf⟩
/-- count() -/
def ctA (N : Nd) (n m : Nat) (ou : Nat → Nat) (c : Nat) (lib : Nat → Cel) (th : Nat → Bool) (ln : Nat) (cv : Option Int32) (w : Int32) : Int32 := if w = 0 then nI n else if w = 1 then nI (ctB (isInp N) n) else if w = 2 then nI m else if w = 3 then nI (bld N n).1.1 else if w = 4 then nI (ctB (lvs (bld N n).1 m (vos N n ou)) (bld N n).1.1) else if w = 5 then nI (ctB (rts (bld N n).1 m (vos N n ou)) (bld N n).1.1) else if w = 6 then nI (ctB th c) else if w = 7 then nI ln else if w = 8 then (match cv with
  | none => -2
  | some how => nI ((Qc (bld N n).1 m (vos N n ou) c lib th how).dal (bld N n).1.1).length) else -1
theorem X_count {N : Nd} {n m : Nat} {ou : Nat → Nat} {c : Nat} {lib : Nat → Cel} {th : Nat → Bool} {ln : Nat} {tp : Nat → Int32} {cv : Option Int32} {S : St} (hP : PnC N n m ou S) (hL : WfL c lib) (hl : PlC c lib th S) (hT : S 3 0 1 = nI ln) (hC : CvC (bld N n).1 m (vos N n ou) c lib th cv S) (w : Int32) : f_X8_count w S = some (ctA N n m ou c lib th ln cv w, S) := by
  obtain ⟨⟨p1, p2, p3, p4, p5, p6⟩, p7, p8, p9⟩ := hP
  have c20 := hL.1
  have h6 : f_X3_countThere S = some (nI (ctB th c), S) := by
    have := c_ctl hL.1 hl.1 (fun d hd => (hl.2 d hd).2.2.2) 5000 0 (by omega) (by omega)
    exact this
  unfold f_X8_count j_X8_count_135 ctA
  rw [p1, p2, p3, p6.1, p8, p9, bi_e h6, hT]
  by_cases w0 : w = 0
  · rw [if_pos w0, if_pos w0]
  · rw [if_neg w0, if_neg w0]
    by_cases w1 : w = 1
    · rw [if_pos w1, if_pos w1]
    · rw [if_neg w1, if_neg w1]
      by_cases w2 : w = 2
      · rw [if_pos w2, if_pos w2]
      · rw [if_neg w2, if_neg w2]
        by_cases w3 : w = 3
        · rw [if_pos w3, if_pos w3]
        · rw [if_neg w3, if_neg w3]
          by_cases w4 : w = 4
          · rw [if_pos w4, if_pos w4]
          · rw [if_neg w4, if_neg w4]
            by_cases w5 : w = 5
            · rw [if_pos w5, if_pos w5]
            · rw [if_neg w5, if_neg w5]
              by_cases w6 : w = 6
              · rw [if_pos w6, if_pos w6]
              · rw [if_neg w6, if_neg w6]
                by_cases w7 : w = 7
                · rw [if_pos w7, if_pos w7]
                · rw [if_neg w7, if_neg w7]
                  by_cases w8 : w = 8
                  · rw [if_pos w8, if_pos w8]
                    cases cv with
                    | none => rw [if_pos hC.z]
                    | some how => rw [if_neg hC.o, (hC.2 how rfl).2.2.1.1]
                  · rw [if_neg w8, if_neg w8]
theorem M_count {N : Nd} {n m : Nat} {ou : Nat → Nat} {c : Nat} {lib : Nat → Cel} {th : Nat → Bool} {ln : Nat} {cv : Option Int32} {T : St} (hw : WfN N n m ou) (hP : PnM N n m ou T) (hL : WfL c lib) (hl : PlM c lib th T) (hT : T 0 0 20 = nI ln) (hC : CvM (bld N n).1 m (vos N n ou) c lib th cv T) (w : Int32) : f_X9_count w T = some (ctA N n m ou c lib th ln cv w, T) := by
  obtain ⟨p1, p2, p3, p4, p5, p6⟩ := hP
  have c20 := hL.1
  obtain ⟨w1, w2, w3⟩ := bld_ok hw.2.2.1 (k := n) (Nat.le_refl n)
  have hn := hw.1
  have h1 := m_ct1 hn hw.2.2.1 p1 5000 0 (by omega) (by omega)
  have h1 : l_X9_count_59 5000 T 0 0 = _ := h1
  have h6 := m_ct6 hL.1 hl.1 (fun d hd => (hl.2 d hd).2.2.2.2) 5000 0 (by omega) (by omega)
  have h6 : l_X9_count_156 5000 T 0 0 = _ := h6
  have h4 := m_ct4 (n := (bld N n).1.1) (p := lvs (bld N n).1 m (vos N n ou)) (T := T) (w := 4) (by omega) p4.1 (fun v hv => by rw [if_pos rfl]; exact (p6 v hv).2.1) 5000 0 (by omega) (by omega)
  have h4 : l_X9_count_104 5000 T 4 0 0 = _ := h4
  have h5 := m_ct4 (n := (bld N n).1.1) (p := rts (bld N n).1 m (vos N n ou)) (T := T) (w := 5) (by omega) p4.1 (fun v hv => by rw [if_neg (by decide)]; exact (p6 v hv).2.2) 5000 0 (by omega) (by omega)
  have h5 : l_X9_count_104 5000 T 5 0 0 = _ := h5
  unfold f_X9_count j_X9_count_210 ctA
  rw [p1.1, p2, p4.1, h1, h6, hT]
  by_cases w0 : w = 0
  · rw [if_pos w0, if_pos w0]
  · rw [if_neg w0, if_neg w0]
    by_cases w1 : w = 1
    · rw [if_pos w1, if_pos w1]
    · rw [if_neg w1, if_neg w1]
      by_cases w2 : w = 2
      · rw [if_pos w2, if_pos w2]
      · rw [if_neg w2, if_neg w2]
        by_cases w3 : w = 3
        · rw [if_pos w3, if_pos w3]
        · rw [if_neg w3, if_neg w3]
          by_cases w4 : w = 4
          · rw [if_pos w4, if_pos w4, w4, h4]
          · rw [if_neg w4, if_neg w4]
            by_cases w5 : w = 5
            · rw [if_pos w5, if_pos w5, w5, h5]
            · rw [if_neg w5, if_neg w5]
              by_cases w6 : w = 6
              · rw [if_pos w6, if_pos w6]
              · rw [if_neg w6, if_neg w6]
                by_cases w7 : w = 7
                · rw [if_pos w7, if_pos w7]
                · rw [if_neg w7, if_neg w7]
                  by_cases w8 : w = 8
                  · rw [if_pos w8, if_pos w8]
                    cases cv with
                    | none => rw [if_pos hC.z]
                    | some how => rw [if_neg hC.o, (hC.2 how rfl).2.1.1]
                  · rw [if_neg w8, if_neg w8]
/-- digest() -/
def dgw (g : Gr) (m : Nat) (ov : Nat → Nat) (h : Int64) (v : Nat) : Nat → Int64
  | 0 => h
  | w + 1 => 31 * dgw g m ov h v w + (vtl g m ov v (nI w)).toInt64
def dgv (g : Gr) (m : Nat) (ov : Nat → Nat) : Nat → Int64
  | 0 => 13
  | v + 1 => dgw g m ov (dgv g m ov v) v 6
def dgo (g : Gr) (m : Nat) (ov : Nat → Nat) : Nat → Int64
  | 0 => dgv g m ov g.1
  | o + 1 => 31 * dgo g m ov o + (nI (ov o)).toInt64
def dgc (g : Gr) (m : Nat) (ov : Nat → Nat) (lib : Nat → Cel) (th : Nat → Bool) : Nat → Int64
  | 0 => dgo g m ov m
  | d + 1 => 31 * (31 * (31 * dgc g m ov lib th d + (b01 (th d)).toInt64) + (lib d).1.toInt64) + (lib d).2.1.toInt64
theorem c_dg20 {g : Gr} {m : Nat} {ov : Nat → Nat} {S : St} (hg : g.1 ≤ 160) (hc : CG g S) (hE : EM g m ov S) {v : Nat} (hv : v < g.1) (h : Int64) (K : St → Int64 → Int32 → Option (Int64 × St)) : ∀ (f w : Nat), w ≤ 6 → 6 - w < f → l_X8_digest_20 K f S (dgw g m ov h v w) (nI v) (nI w) = K S (dgw g m ov h v 6) (nI v) := by
  intro f
  induction f with
  | zero => intro w _ h; exact absurd h (by omega)
  | succ f ih =>
    intro w hw hf
    rw [show l_X8_digest_20 K (f + 1) = b_X8_digest_20 (l_X8_digest_20 K f) K from rfl]
    unfold b_X8_digest_20
    by_cases e : w = 6
    · subst e
      rw [if_pos (show (5 : Int32) < nI 6 from by decide)]
    · have hvt := c_vertex hg hc hE (nI v) (nI w)
      rw [inR_nI (by omega), decide_eq_true hv, if_pos rfl, nI_clamp (show v < 2 ^ 31 by omega)] at hvt
      rw [if_neg (show ¬ (5 : Int32) < nI w from nI_nlt (a := 5) (b := w) (by omega) (by decide)), bi_e hvt, lt_, lt_, nI_1]
      exact ih (w + 1) (by omega) (by omega)
theorem c_dg6 {g : Gr} {m : Nat} {ov : Nat → Nat} {S : St} (hg : g.1 ≤ 160) (hc : CG g S) (hE : EM g m ov S) (K : St → Int64 → Option (Int64 × St)) : ∀ (f v : Nat), v ≤ g.1 → g.1 - v < f → l_X8_digest_6 K f S (dgv g m ov v) (nI v) = K S (dgv g m ov g.1) := by
  intro f
  induction f with
  | zero => intro w _ h; exact absurd h (by omega)
  | succ f ih =>
    intro v hv hf
    rw [show l_X8_digest_6 K (f + 1) = b_X8_digest_6 (l_X8_digest_6 K f) K from rfl]
    unfold b_X8_digest_6
    rw [hc.1]
    by_cases e : v = g.1
    · rw [e, if_pos (nI_le (Nat.le_refl _) (by omega))]
    · rw [if_neg (nI_ge (show v < g.1 by omega) (by omega))]
      have := c_dg20 hg hc hE (show v < g.1 by omega) (dgv g m ov v) (fun S x1 x3 => lt_ (x3 + 1) (fun v_8 => l_X8_digest_6 K f S x1 v_8)) 5000 0 (by omega) (by omega)
      have this : l_X8_digest_20 (fun S x1 x3 => lt_ (x3 + 1) (fun v_8 => l_X8_digest_6 K f S x1 v_8)) 5000 S (dgv g m ov v) (nI v) 0 = _ := this
      rw [this, lt_, nI_1]
      exact ih (v + 1) (by omega) (by omega)
theorem c_dg55 {g : Gr} {m : Nat} {ov : Nat → Nat} {S : St} (hO : OV m g.1 ov S) (K : St → Int64 → Option (Int64 × St)) : ∀ (f o : Nat), o ≤ m → m - o < f → l_X8_digest_55 K f S (dgo g m ov o) (nI o) = K S (dgo g m ov m) := by
  have hm := hO.2.1
  intro f
  induction f with
  | zero => intro w _ h; exact absurd h (by omega)
  | succ f ih =>
    intro o ho hf
    rw [show l_X8_digest_55 K (f + 1) = b_X8_digest_55 (l_X8_digest_55 K f) K from rfl]
    unfold b_X8_digest_55
    rw [hO.1]
    by_cases e : o = m
    · rw [e, if_pos (nI_le (Nat.le_refl _) (by omega))]
    · rw [if_neg (nI_ge (show o < m by omega) (by omega)), bi_e (hO.get (show o < m by omega)), lt_, lt_, nI_1]
      exact ih (o + 1) (by omega) (by omega)
theorem c_dg90 {g : Gr} {m : Nat} {ov : Nat → Nat} {c : Nat} {lib : Nat → Cel} {th : Nat → Bool} {S : St} (hc : c ≤ 20) (hl : PlC c lib th S) : ∀ (f d : Nat), d ≤ c → c - d < f → l_X8_digest_90 f S (dgc g m ov lib th d) (nI d) = some (dgc g m ov lib th c, S) := by
  intro f
  induction f with
  | zero => intro w _ h; exact absurd h (by omega)
  | succ f ih =>
    intro d hd hf
    rw [show l_X8_digest_90 (f + 1) = b_X8_digest_90 (l_X8_digest_90 f) from rfl]
    unfold b_X8_digest_90 j_X8_digest_130
    rw [hl.1]
    by_cases e : d = c
    · rw [e, if_pos (nI_le (Nat.le_refl _) (by omega))]
    · obtain ⟨-, l1, l2, l3⟩ := hl.2 d (by omega)
      rw [if_neg (nI_ge (show d < c by omega) (by omega)), gd_t (ix_nI (show d < 20 by omega) (by decide)), nI_clamp (show d < 2 ^ 31 by omega), l1, l2, l3]
      have ih := ih (d + 1) (by omega) (by omega)
      rw [dgc] at ih
      cases hth : th d with
      | true => rw [hth] at ih; rw [if_neg (show ¬ b01 true = 0 from by decide), lt_, lt_, lt_, lt_, nI_1]; exact ih
      | false => rw [hth] at ih; rw [if_pos (show b01 false = 0 from rfl), lt_, lt_, lt_, lt_, nI_1]; exact ih
theorem X_digest {g : Gr} {m : Nat} {ov : Nat → Nat} {c : Nat} {lib : Nat → Cel} {th : Nat → Bool} {S : St} (h : EvC g m ov c lib th S) (hO : OV m g.1 ov S) : f_X8_digest S = some (dgc g m ov lib th c, S) := by
  obtain ⟨h1, h2, h3, h4, h5, h6⟩ := h
  have hm := hO.2.1
  have c20 := h5.1
  unfold f_X8_digest
  have a := c_dg6 h1 h3 h4 (fun S x1 => l_X8_digest_55 (fun S x1 => l_X8_digest_90 5000 S x1 0) 5000 S x1 0) 5000 0 (by omega) (by omega)
  have a : l_X8_digest_6 (fun S x1 => l_X8_digest_55 (fun S x1 => l_X8_digest_90 5000 S x1 0) 5000 S x1 0) 5000 S 13 0 = _ := a
  rw [a]
  have b := c_dg55 (g := g) hO (fun S x1 => l_X8_digest_90 5000 S x1 0) 5000 0 (by omega) (by omega)
  have b : l_X8_digest_55 (fun S x1 => l_X8_digest_90 5000 S x1 0) 5000 S (dgv g m ov g.1) 0 = _ := b
  rw [b]
  exact c_dg90 (g := g) (m := m) (ov := ov) h5.1 h6 5000 0 (by omega) (by omega)
theorem m_dg17 {g : Gr} {m : Nat} {ov : Nat → Nat} {T : St} (hg : g.1 ≤ 160) (hc : MG g T) (hE : EM g m ov T) {v : Nat} (hv : v < g.1) (h : Int64) (K : St → Int64 → Int32 → Option (Int64 × St)) : ∀ (f w : Nat), w ≤ 6 → 6 - w < f → l_X9_digest_17 K f T (dgw g m ov h v w) (nI v) (nI w) = K T (dgw g m ov h v 6) (nI v) := by
  intro f
  induction f with
  | zero => intro w _ h; exact absurd h (by omega)
  | succ f ih =>
    intro w hw hf
    rw [show l_X9_digest_17 K (f + 1) = b_X9_digest_17 (l_X9_digest_17 K f) K from rfl]
    unfold b_X9_digest_17
    by_cases e : w = 6
    · subst e
      rw [if_pos (show (6 : Int32) ≤ nI 6 from by decide)]
    · rw [if_neg (show ¬ (6 : Int32) ≤ nI w from nI_ge (b := 6) (by omega) (by decide)), bi_e (m_told hg hc hE hv (w := nI w) (by rw [nI_toInt (by omega)]; omega)), lt_, lt_, nI_1]
      exact ih (w + 1) (by omega) (by omega)
theorem m_dg6 {g : Gr} {m : Nat} {ov : Nat → Nat} {T : St} (hg : g.1 ≤ 160) (hc : MG g T) (hE : EM g m ov T) (K : St → Int64 → Option (Int64 × St)) : ∀ (f v : Nat), v ≤ g.1 → g.1 - v < f → l_X9_digest_6 K f T (dgv g m ov v) (nI v) = K T (dgv g m ov g.1) := by
  intro f
  induction f with
  | zero => intro w _ h; exact absurd h (by omega)
  | succ f ih =>
    intro v hv hf
    rw [show l_X9_digest_6 K (f + 1) = b_X9_digest_6 (l_X9_digest_6 K f) K from rfl]
    unfold b_X9_digest_6
    rw [hc.1]
    by_cases e : v = g.1
    · rw [e, if_pos (nI_le (Nat.le_refl _) (by omega))]
    · rw [if_neg (nI_ge (show v < g.1 by omega) (by omega))]
      have := m_dg17 hg hc hE (show v < g.1 by omega) (dgv g m ov v) (fun S x1 x3 => lt_ (x3 + 1) (fun v_8 => l_X9_digest_6 K f S x1 v_8)) 5000 0 (by omega) (by omega)
      have this : l_X9_digest_17 (fun S x1 x3 => lt_ (x3 + 1) (fun v_8 => l_X9_digest_6 K f S x1 v_8)) 5000 T (dgv g m ov v) (nI v) 0 = _ := this
      rw [this, lt_, nI_1]
      exact ih (v + 1) (by omega) (by omega)
theorem m_dg53 {g : Gr} {m : Nat} {ov : Nat → Nat} {T : St} (hO : OVM m g.1 ov T) (K : St → Int64 → Option (Int64 × St)) : ∀ (f o : Nat), o ≤ m → m - o < f → l_X9_digest_53 K f T (dgo g m ov o) (nI o) = K T (dgo g m ov m) := by
  have hm := hO.2.1
  intro f
  induction f with
  | zero => intro w _ h; exact absurd h (by omega)
  | succ f ih =>
    intro o ho hf
    rw [show l_X9_digest_53 K (f + 1) = b_X9_digest_53 (l_X9_digest_53 K f) K from rfl]
    unfold b_X9_digest_53
    rw [hO.1]
    by_cases e : o = m
    · rw [e, if_pos (nI_le (Nat.le_refl _) (by omega))]
    · obtain ⟨o1, k, k1, k2, k3⟩ := hO.2.2.2 o (by omega)
      rw [if_neg (nI_ge (show o < m by omega) (by omega)), gd_t (ix_nI (show o < 8 by omega) (by decide)), lt_, nI_clamp (show o < 2 ^ 31 by omega), k2, gd_t (ix_nI k1 (by decide)), lt_, nI_clamp (show k < 2 ^ 31 by omega), k3, lt_, lt_, nI_1]
      exact ih (o + 1) (by omega) (by omega)
theorem m_dg88 {g : Gr} {m : Nat} {ov : Nat → Nat} {c : Nat} {lib : Nat → Cel} {th : Nat → Bool} {T : St} (hc : c ≤ 20) (hl : PlM c lib th T) : ∀ (f d : Nat), d ≤ c → c - d < f → l_X9_digest_88 f T (dgc g m ov lib th d) (nI d) = some (dgc g m ov lib th c, T) := by
  intro f
  induction f with
  | zero => intro w _ h; exact absurd h (by omega)
  | succ f ih =>
    intro d hd hf
    rw [show l_X9_digest_88 (f + 1) = b_X9_digest_88 (l_X9_digest_88 f) from rfl]
    unfold b_X9_digest_88 j_X9_digest_121
    rw [hl.1]
    by_cases e : d = c
    · rw [e, if_pos (nI_le (Nat.le_refl _) (by omega))]
    · obtain ⟨-, l1, l2, l3, l4⟩ := hl.2 d (by omega)
      have hix := ix_nI (show d < 20 by omega) (by decide)
      rw [if_neg (nI_ge (show d < c by omega) (by omega)), gd_t hix, lt_, nI_clamp (show d < 2 ^ 31 by omega), l4, gd_t hix, lt_, l1, gd_t hix, lt_, l2]
      have ih := ih (d + 1) (by omega) (by omega)
      rw [dgc] at ih
      cases hth : th d with
      | true => rw [hth] at ih; rw [if_neg (show ¬ b01 true = 0 from by decide), lt_, lt_, nI_1, gd_t hix, gd_t hix, lt_, lt_]; exact ih
      | false => rw [hth] at ih; rw [if_pos (show b01 false = 0 from rfl), lt_, lt_, nI_1]; exact ih
theorem M_digest {g : Gr} {m : Nat} {ov : Nat → Nat} {c : Nat} {lib : Nat → Cel} {th : Nat → Bool} {T : St} (h : EvM g m ov c lib th T) (hO : OVM m g.1 ov T) : f_X9_digest T = some (dgc g m ov lib th c, T) := by
  obtain ⟨h1, h2, h3, h4, h5, h6⟩ := h
  have hm := hO.2.1
  have c20 := h5.1
  unfold f_X9_digest
  have a := m_dg6 h1 h3 h4 (fun S x1 => l_X9_digest_53 (fun S x1 => l_X9_digest_88 5000 S x1 0) 5000 S x1 0) 5000 0 (by omega) (by omega)
  have a : l_X9_digest_6 (fun S x1 => l_X9_digest_53 (fun S x1 => l_X9_digest_88 5000 S x1 0) 5000 S x1 0) 5000 T 13 0 = _ := a
  rw [a]
  have b := m_dg53 (g := g) hO (fun S x1 => l_X9_digest_88 5000 S x1 0) 5000 0 (by omega) (by omega)
  have b : l_X9_digest_53 (fun S x1 => l_X9_digest_88 5000 S x1 0) 5000 T (dgv g m ov g.1) 0 = _ := b
  rw [b]
  exact m_dg88 (g := g) (m := m) (ov := ov) h5.1 h6 5000 0 (by omega) (by omega)
