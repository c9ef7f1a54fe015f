/-! best, the listed ones, area, arrival of both sides -/
theorem HS_at : ∀ {L : List Nat} {R : Nat → Int32}, HS L R → ∀ i, i < L.length → ∃ v, v ∈ L ∧ L[L.length - 1 - i]? = some v ∧ R i = nI v
  | [], _, _, i, hi => absurd hi (by simp)
  | x :: r, R, h, i, hi => by
    by_cases e : i = r.length
    · refine ⟨x, List.mem_cons_self, ?_, by rw [e]; exact h.1⟩
      rw [show (x :: r).length - 1 - i = 0 from by simp; omega]
      rfl
    · have hi' : i < r.length := by simp at hi; omega
      obtain ⟨v, a, b, c⟩ := HS_at h.2 i hi'
      refine ⟨v, List.mem_cons_of_mem _ a, ?_, c⟩
      rw [show (x :: r).length - 1 - i = (r.length - 1 - i) + 1 from by simp; omega]
      exact b
theorem CvC.z {g : Gr} {m : Nat} {ov : Nat → Nat} {c : Nat} {lib : Nat → Cel} {th : Nat → Bool} {S : St} (h : CvC g m ov c lib th none S) : S 0 0 8 = 0 := h.1
theorem CvC.o {g : Gr} {m : Nat} {ov : Nat → Nat} {c : Nat} {lib : Nat → Cel} {th : Nat → Bool} {how : Int32} {S : St} (h : CvC g m ov c lib th (some how) S) : ¬ S 0 0 8 = 0 := by
  rw [h.1]; exact (show ¬ b01 true = 0 from by decide)
theorem CvM.z {g : Gr} {m : Nat} {ov : Nat → Nat} {c : Nat} {lib : Nat → Cel} {th : Nat → Bool} {T : St} (h : CvM g m ov c lib th none T) : T 0 0 10 = 0 := h.1
theorem CvM.o {g : Gr} {m : Nat} {ov : Nat → Nat} {c : Nat} {lib : Nat → Cel} {th : Nat → Bool} {how : Int32} {T : St} (h : CvM g m ov c lib th (some how) T) : ¬ T 0 0 10 = 0 := by
  rw [h.1]; exact (show ¬ b01 true = 0 from by decide)
/-- area() -/
def arA (g : Gr) (m : Nat) (ov : Nat → Nat) (c : Nat) (lib : Nat → Cel) (th : Nat → Bool) : Option Int32 → Int32
  | none => -2
  | some how => (Qc g m ov c lib th how).asm ((Qc g m ov c lib th how).dal g.1)
theorem X_area {g : Gr} {m : Nat} {ov : Nat → Nat} {c : Nat} {lib : Nat → Cel} {th : Nat → Bool} {cv : Option Int32} {S : St} (hC : CvC g m ov c lib th cv S) : f_X8_area S = some (arA g m ov c lib th cv, S) := by
  unfold f_X8_area j_X8_area_19
  cases cv with
  | none => rw [if_pos hC.z]; rfl
  | some how => rw [if_neg hC.o, (hC.2 how rfl).2.2.1.2.2.2]; rfl
theorem M_area {g : Gr} {m : Nat} {ov : Nat → Nat} {c : Nat} {lib : Nat → Cel} {th : Nat → Bool} {cv : Option Int32} {T : St} (hC : CvM g m ov c lib th cv T) : f_X9_area T = some (arA g m ov c lib th cv, T) := by
  unfold f_X9_area j_X9_area_16
  cases cv with
  | none => rw [if_pos hC.z]; rfl
  | some how => rw [if_neg hC.o, (hC.2 how rfl).2.2.2]; rfl
/-- arrival() -/
def arrA (g : Gr) (m : Nat) (ov : Nat → Nat) (c : Nat) (lib : Nat → Cel) (th : Nat → Bool) (cv : Option Int32) (x : Int32) : Int32 := if inR x m = false then -1 else match cv with
  | none => -2
  | some how => ((Qc g m ov c lib th how).bs g.1 (ov x.toNatClampNeg)).2.2.1
theorem c_lts {x : Int32} {n : Nat} (hn : n < 2 ^ 31) : (x < nI n) ↔ x.toInt < n := by
  rw [Int32.lt_iff_toInt_lt, nI_toInt hn]
theorem X_arrival {g : Gr} {m : Nat} {ov : Nat → Nat} {c : Nat} {lib : Nat → Cel} {th : Nat → Bool} {cv : Option Int32} {S : St} (hO : OV m g.1 ov S) (hC : CvC g m ov c lib th cv S) (x : Int32) : f_X8_arrival x S = some (arrA g m ov c lib th cv x, S) := by
  unfold f_X8_arrival j_X8_arrival_15 j_X8_arrival_45 arrA
  rw [hO.1]
  have hm := hO.2.1
  cases hin : inR x m with
  | false =>
    rw [if_pos rfl]
    by_cases h0 : x < 0
    · rw [if_pos h0]
    · rw [if_neg h0, if_neg (fun q => by
        have h1 : ¬ x.toInt < 0 := fun q => h0 (lt_0I.mpr q)
        have h2 := (c_lts (by omega)).mp q
        have := of_decide_eq_false hin
        omega)]
  | true =>
    obtain ⟨o, ho, rfl⟩ := inR_t hin (by omega)
    rw [if_neg (show ¬ true = false from by decide), if_neg (nI_pos (show o < 2 ^ 31 by omega)), if_pos (nI_lt ho (by omega)), nI_clamp (show o < 2 ^ 31 by omega)]
    cases cv with
    | none => rw [if_pos hC.z]
    | some how =>
      obtain ⟨o1, -⟩ := hO.2.2.2 o ho
      have g160 := hO.2.2.1
      rw [if_neg hC.o, bi_e (hO.get ho), gd_t (ix_nI (show ov o < 160 by omega) (by decide)), lt_, nI_clamp (show ov o < 2 ^ 31 by omega), ((hC.2 how rfl).2.1 (ov o) o1).2.2.1]
      rfl
theorem M_arrival {g : Gr} {m : Nat} {ov : Nat → Nat} {c : Nat} {lib : Nat → Cel} {th : Nat → Bool} {cv : Option Int32} {T : St} (hO : OVM m g.1 ov T) (hC : CvM g m ov c lib th cv T) (x : Int32) : f_X9_arrival x T = some (arrA g m ov c lib th cv x, T) := by
  unfold f_X9_arrival j_X9_arrival_48 arrA
  have hm := hO.2.1
  rw [hO.1, bi_e (f_in0 x (show m < 2 ^ 31 by omega) T)]
  cases hin : inR x m with
  | false => rw [if_pos (show b01 false = 0 from rfl), if_pos rfl]
  | true =>
    obtain ⟨o, ho, rfl⟩ := inR_t hin (by omega)
    rw [if_neg (show ¬ b01 true = 0 from by decide), if_neg (show ¬ true = false from by decide), nI_clamp (show o < 2 ^ 31 by omega)]
    cases cv with
    | none => rw [if_pos hC.z]
    | some how =>
      obtain ⟨o1, k, k1, k2, k3⟩ := hO.2.2.2 o ho
      have g160 := hO.2.2.1
      have hr := ((hC.2 how rfl).1 (ov o) o1).2.2.1
      rw [show 200 * 0 + ov o = ov o from by omega] at hr
      rw [if_neg hC.o, gd_t (ix_nI (show o < 8 by omega) (by decide)), lt_, k2, gd_t (ix_nI k1 (by decide)), lt_, nI_clamp (show k < 2 ^ 31 by omega), k3, gd_t (ix_nI (show ov o < 400 by omega) (by decide)), lt_, nI_clamp (show ov o < 2 ^ 31 by omega), hr]
      rfl
/-- what best() tells of a vertex; w: 0 .. 8 -/
def btl (x : Bst) (w : Nat) : Int32 := if w = 0 then x.2.1 else if w = 1 then x.2.2.1 else if w = 2 then x.1 else x.2.2.2 (w - 3)
def bstA (g : Gr) (m : Nat) (ov : Nat → Nat) (c : Nat) (lib : Nat → Cel) (th : Nat → Bool) (cv : Option Int32) (x w : Int32) : Int32 := if inR x g.1 = false ∨ inR w 9 = false then -1 else match cv with
  | none => -2
  | some how => if (Qc g m ov c lib th how).hx x.toNatClampNeg ((Qc g m ov c lib th how).bs g.1 x.toNatClampNeg) = true then btl ((Qc g m ov c lib th how).bs g.1 x.toNatClampNeg) w.toNatClampNeg else -4
theorem w_ne {w : Nat} {k : Nat} (hw : w < 2 ^ 31) (hk : k < 2 ^ 31) : (nI w = nI k) ↔ w = k := nI_eq hw hk
theorem b0_of {Q : Cq} (hc : Q.c ≤ 20) {v : Nat} (hv : v < Q.g.1) (h4 : (Q.bs Q.g.1 v).1 = -4) : Q.bs Q.g.1 v = b0 := by
  rcases Q.b1_cho v with h0 | ⟨l1, l2, d, t, c1, c2, c3, c4, c5, c6, c7, c8⟩
  · rw [Q.bs_lt hv]; exact h0
  · rw [Q.bs_lt hv, c6] at h4
    exact absurd h4 (nI_m4 (by omega))
theorem M_best_ {g : Gr} {m : Nat} {ov : Nat → Nat} {c : Nat} {lib : Nat → Cel} {th : Nat → Bool} {cv : Option Int32} {T : St} (h : EvM g m ov c lib th T) (hC : CvM g m ov c lib th cv T) (x w : Int32) : f_X9_best_ x w T = some (bstA g m ov c lib th cv x w, T) := by
  have g160 := h.1
  unfold f_X9_best_ j_X9_best__20 j_X9_best__98 bstA
  rw [bi_e (m_isVertex h.1 h.2.2.1.1 x)]
  cases hin : inR x g.1 with
  | false => rw [if_pos (show b01 false = 0 from rfl), if_pos (Or.inl rfl)]
  | true =>
    have e9 : f_X9_in w.toInt64 0 8 T = some (b01 (inR w 9), T) := by
      rw [f_in, i64_of, show (0 : Int64).toInt = 0 from by decide, show (8 : Int64).toInt = 8 from by decide]
      congr 3
      unfold inR
      exact decide_eq_decide.mpr (by omega)
    rw [if_neg (show ¬ b01 true = 0 from by decide), bi_e e9]
    cases hw : inR w 9 with
    | false => rw [if_pos (show b01 false = 0 from rfl), if_pos (Or.inr rfl)]
    | true =>
      rw [if_neg (show ¬ b01 true = 0 from by decide), if_neg (show ¬ (true = false ∨ true = false) from by decide)]
      cases cv with
      | none => rw [if_pos hC.z]
      | some how =>
        obtain ⟨v, hv, rfl⟩ := inR_t hin (by omega)
        obtain ⟨k, hk, rfl⟩ := inR_t hw (by omega)
        have hr := (hC.2 how rfl).1 v hv
        rw [show 200 * 0 + v = v from by omega] at hr
        obtain ⟨r1, r2, r3, r4, r5⟩ := hr
        have r2 : T 31 0 v = ((Qc g m ov c lib th how).bs g.1 v).2.1 := r2
        have r3 : T 32 0 v = ((Qc g m ov c lib th how).bs g.1 v).2.2.1 := r3
        have r4 : T 33 0 v = ((Qc g m ov c lib th how).bs g.1 v).1 := r4
        have r5 : ∀ p, p < 6 → T 34 0 (6 * v + p) = ((Qc g m ov c lib th how).bs g.1 v).2.2.2 p := r5
        have r1 : T 30 0 v = b01 ((Qc g m ov c lib th how).hx v ((Qc g m ov c lib th how).bs g.1 v)) := r1
        have hix : ix (nI v) 400 = true := ix_nI (by omega) (by decide)
        rw [if_neg hC.o, gd_t hix, lt_, nI_clamp (show v < 2 ^ 31 by omega), nI_clamp (show k < 2 ^ 31 by omega), r1]
        simp only
        cases hh : (Qc g m ov c lib th how).hx v ((Qc g m ov c lib th how).bs g.1 v) with
        | false => rw [if_pos (show b01 false = 0 from rfl), if_neg (show ¬ false = true from by decide)]
        | true =>
          rw [if_neg (show ¬ b01 true = 0 from by decide), if_pos rfl]
          unfold btl
          by_cases k0 : k = 0
          · rw [if_pos k0, if_pos (show nI k = 0 by rw [k0]; rfl), gd_t hix, lt_, r2]
          · rw [if_neg k0, if_neg (show ¬ nI k = 0 from nI_ne0 (by omega) (by omega))]
            by_cases k1 : k = 1
            · rw [if_pos k1, if_pos (show nI k = 1 by rw [k1]; rfl), gd_t hix, lt_, r3]
            · rw [if_neg k1, if_neg (show ¬ nI k = 1 from fun q => k1 ((w_ne (k := 1) (by omega) (by decide)).mp q))]
              by_cases k2 : k = 2
              · rw [if_pos k2, if_pos (show nI k = 2 by rw [k2]; rfl), gd_t hix, lt_, r4]
              · rw [if_neg k2, if_neg (show ¬ nI k = 2 from fun q => k2 ((w_ne (k := 2) (by omega) (by decide)).mp q)), show 6 * nI v + nI k - 3 = nI (6 * v + (k - 3)) from by
                  rw [show (6 : Int32) = nI 6 from rfl, show (3 : Int32) = nI 3 from rfl, pk_mul, nI_add, pk_sub (by omega)]
                  congr 1; omega, gd_t (ix_nI (show 6 * v + (k - 3) < 2400 by omega) (by decide)), lt_, nI_clamp (show 6 * v + (k - 3) < 2 ^ 31 by omega), r5 _ (by omega)]
theorem X_best {g : Gr} {m : Nat} {ov : Nat → Nat} {c : Nat} {lib : Nat → Cel} {th : Nat → Bool} {cv : Option Int32} {S : St} (h : EvC g m ov c lib th S) (hC : CvC g m ov c lib th cv S) (x w : Int32) : f_X8_best x w S = some (bstA g m ov c lib th cv x w, S) := by
  have g160 := h.1
  have c20 := h.2.2.2.2.1.1
  unfold f_X8_best j_X8_best_21 j_X8_best_55 bstA
  rw [bi_e (c_vhas h.1 h.2.2.1.1 x)]
  cases hin : inR x g.1 with
  | false => rw [if_pos (show b01 false = 0 from rfl), if_pos (Or.inl rfl)]
  | true =>
    rw [if_neg (show ¬ b01 true = 0 from by decide)]
    cases hw : inR w 9 with
    | false =>
      rw [if_pos (Or.inr rfl)]
      by_cases w0 : w < 0
      · rw [if_pos w0]
      · rw [if_neg w0, if_neg (fun q => by
          have h1 : ¬ w.toInt < 0 := fun q => w0 (lt_0I.mpr q)
          rw [Int32.le_iff_toInt_le, show (8 : Int32).toInt = 8 from by decide] at q
          have := of_decide_eq_false hw
          omega)]
    | true =>
      obtain ⟨k, hk, rfl⟩ := inR_t hw (by omega)
      rw [if_neg (nI_pos (show k < 2 ^ 31 by omega)), if_pos (show nI k ≤ 8 from nI_le (b := 8) (by omega) (by decide)), if_neg (show ¬ (true = false ∨ true = false) from by decide)]
      cases cv with
      | none => rw [if_pos hC.z]
      | some how =>
        obtain ⟨v, hv, rfl⟩ := inR_t hin (by omega)
        obtain ⟨ho, hb, hl, hm⟩ := hC.2 how rfl
        have hx : (Qc g m ov c lib th how).hx v ((Qc g m ov c lib th how).bs g.1 v) = true ∨ (Qc g m ov c lib th how).hx v ((Qc g m ov c lib th how).bs g.1 v) = false := by
          cases (Qc g m ov c lib th how).hx v ((Qc g m ov c lib th how).bs g.1 v) <;> simp
        rw [if_neg hC.o, bi_e (c_isAlive h.1 h.2.2.1 h.2.2.2.1 (nI v)), hin, Bool.true_and, nI_clamp (show v < 2 ^ 31 by omega), nI_clamp (show k < 2 ^ 31 by omega)]
        obtain ⟨r1, r2, r3, r4⟩ := hb v hv
        have r1 : S 29 0 v = ((Qc g m ov c lib th how).bs g.1 v).1 := r1
        have r2 : S 27 0 v = ((Qc g m ov c lib th how).bs g.1 v).2.1 := r2
        have r3 : S 28 0 v = ((Qc g m ov c lib th how).bs g.1 v).2.2.1 := r3
        have hix : ix (nI v) 160 = true := ix_nI (by omega) (by decide)
        have hcl : (nI v).toNatClampNeg = v := nI_clamp (by omega)
        simp only
        cases hlv : lvs g m ov v with
        | false =>
          rw [if_pos (show b01 false = 0 from rfl)]
          have hb0 : (Qc g m ov c lib th how).bs g.1 v = b0 := by
            have e : (Qc g m ov c lib th how).bs g.1 v = (Qc g m ov c lib th how).b1 ((Qc g m ov c lib th how).bs v) v := Cq.bs_lt _ hv
            rw [e]
            unfold Cq.b1
            exact if_neg (fun q => by
              have q1 : lvs g m ov v = true := q.1
              rw [hlv] at q1
              cases q1)
          have hlv' : (Qc g m ov c lib th how).lv v = false := hlv
          rw [hb0, Cq.hx_0, hlv', Bool.and_false, if_neg (show ¬ false = true from by decide)]
        | true =>
          have hlv' : (Qc g m ov c lib th how).lv v = true := hlv
          rw [if_neg (show ¬ b01 true = 0 from by decide), bi_e (c_hasOne (Q := Qc g m ov c lib th how) (bs := (Qc g m ov c lib th how).bs g.1) h hv hlv' r1), ← Cq.hx_v]
          cases hh : (Qc g m ov c lib th how).hx v ((Qc g m ov c lib th how).bs g.1 v) with
          | false => rw [if_pos (show b01 false = 0 from rfl), if_neg (show ¬ false = true from by decide)]
          | true =>
            rw [if_neg (show ¬ b01 true = 0 from by decide), if_pos rfl]
            unfold btl
            by_cases k0 : k = 0
            · rw [if_pos k0, if_pos (show nI k = 0 by rw [k0]; rfl), gd_t hix, lt_, r2]
            · rw [if_neg k0, if_neg (show ¬ nI k = 0 from nI_ne0 (by omega) (by omega))]
              by_cases k1 : k = 1
              · rw [if_pos k1, if_pos (show nI k = 1 by rw [k1]; rfl), gd_t hix, lt_, r3]
              · rw [if_neg k1, if_neg (show ¬ nI k = 1 from fun q => k1 ((w_ne (k := 1) (by omega) (by decide)).mp q))]
                by_cases k2 : k = 2
                · rw [if_pos k2, if_pos (show nI k = 2 by rw [k2]; rfl), gd_t hix, lt_, r1]
                · rw [if_neg k2, if_neg (show ¬ nI k = 2 from fun q => k2 ((w_ne (k := 2) (by omega) (by decide)).mp q)), show nI k - 3 = nI (k - 3) from pk_sub (b := 3) (by omega)]
                  by_cases h4 : ((Qc g m ov c lib th how).bs g.1 v).1 = -4
                  · have hb0 : (Qc g m ov c lib th how).bs g.1 v = b0 := b0_of (Q := Qc g m ov c lib th how) c20 hv h4
                    unfold f_X1_pinOf j_X1_pinOf_27
                    rw [gd_t hix, lt_, hcl, r1, if_pos h4, hb0]
                    rfl
                  · rw [bi_e (c_pinOf (Q := Qc g m ov c lib th how) hb hv g160 h4 (show k - 3 < 6 by omega))]
                    rfl
/-- what is told of the i-th that is listed; w: 0 .. 7 -/
def itl (Q : Cq) (v : Nat) (w : Nat) : Int32 := if w = 0 then (Q.bs Q.g.1 v).1 else if w = 1 then nI v else Q.P v (w - 2)
def insA (g : Gr) (m : Nat) (ov : Nat → Nat) (c : Nat) (lib : Nat → Cel) (th : Nat → Bool) (cv : Option Int32) (x w : Int32) : Int32 := if inR w 8 = false then -1 else match cv with
  | none => -2
  | some how => if inR x ((Qc g m ov c lib th how).dal g.1).length = false then -4 else match ((Qc g m ov c lib th how).dal g.1)[((Qc g m ov c lib th how).dal g.1).length - 1 - x.toNatClampNeg]? with
    | none => 0
    | some v => itl (Qc g m ov c lib th how) v w.toNatClampNeg
theorem Cq.dal_m {Q : Cq} (h : Q.ok) {v : Nat} (hv : v ∈ Q.dal Q.g.1) : v < Q.g.1 ∧ (Q.bs Q.g.1 v).1 ≠ -4 := by
  obtain ⟨n, hn⟩ := ((Q.dal_ok h Q.g.1 (Nat.le_refl _)).1.1.2.1 v hv).1
  obtain ⟨a, b, -⟩ := Q.D_m h n v hn
  exact ⟨a, b⟩
theorem Cq.dal_len {Q : Cq} (h : Q.ok) : (Q.dal Q.g.1).length ≤ 160 := by
  have := (Q.dal_ok h Q.g.1 (Nat.le_refl _)).1.1.len h
  simpa using this
theorem X_instance {g : Gr} {m : Nat} {ov : Nat → Nat} {c : Nat} {lib : Nat → Cel} {th : Nat → Bool} {cv : Option Int32} {S : St} (h : EvC g m ov c lib th S) (hC : CvC g m ov c lib th cv S) (x w : Int32) : f_X8_instance x w S = some (insA g m ov c lib th cv x w, S) := by
  have g160 := h.1
  unfold f_X8_instance j_X8_instance_10 j_X8_instance_37 insA
  cases hw : inR w 8 with
  | false =>
    rw [if_pos rfl]
    by_cases w0 : w < 0
    · rw [if_pos w0]
    · rw [if_neg w0, if_neg (fun q => by
        have h1 : ¬ w.toInt < 0 := fun q => w0 (lt_0I.mpr q)
        rw [Int32.le_iff_toInt_le, show (7 : Int32).toInt = 7 from by decide] at q
        have := of_decide_eq_false hw
        omega)]
  | true =>
    obtain ⟨k, hk, rfl⟩ := inR_t hw (by omega)
    rw [if_neg (nI_pos (show k < 2 ^ 31 by omega)), if_pos (show nI k ≤ 7 from nI_le (b := 7) (by omega) (by decide)), if_neg (show ¬ true = false from by decide)]
    cases cv with
    | none => rw [if_pos hC.z]
    | some how =>
      obtain ⟨ho, hb, hl, hm⟩ := hC.2 how rfl
      have hlen : ((Qc g m ov c lib th how).dal g.1).length ≤ 160 := Cq.dal_len ho
      rw [if_neg hC.o, hl.1]
      simp only
      cases hin : inR x ((Qc g m ov c lib th how).dal g.1).length with
      | false =>
        rw [if_pos rfl]
        by_cases h0 : x < 0
        · rw [if_pos h0]
        · rw [if_neg h0, if_neg (fun q => by
            have h1 : ¬ x.toInt < 0 := fun q => h0 (lt_0I.mpr q)
            have h2 := (c_lts (by omega)).mp q
            have := of_decide_eq_false hin
            omega)]
      | true =>
        obtain ⟨i, hi, rfl⟩ := inR_t hin (by omega)
        obtain ⟨v, v1, v2, v3⟩ := HS_at hl.2.1 i hi
        obtain ⟨va, vb⟩ := Cq.dal_m ho v1
        have va : v < g.1 := va
        have r1 : S 29 0 v = ((Qc g m ov c lib th how).bs g.1 v).1 := (hb v va).1
        rw [if_neg (nI_pos (show i < 2 ^ 31 by omega)), if_pos (nI_lt hi (by omega)), if_neg (show ¬ true = false from by decide), gd_t (ix_nI (show i < 160 by omega) (by decide)), lt_, nI_clamp (show i < 2 ^ 31 by omega), v3, v2, nI_clamp (show k < 2 ^ 31 by omega)]
        simp only
        unfold itl
        by_cases k0 : k = 0
        · rw [if_pos k0, if_pos (show nI k = 0 by rw [k0]; rfl), gd_t (ix_nI (show v < 160 by omega) (by decide)), lt_, nI_clamp (show v < 2 ^ 31 by omega), r1]
          rfl
        · rw [if_neg k0, if_neg (show ¬ nI k = 0 from nI_ne0 (by omega) (by omega))]
          by_cases k1 : k = 1
          · rw [if_pos k1, if_pos (show nI k = 1 by rw [k1]; rfl)]
          · rw [if_neg k1, if_neg (show ¬ nI k = 1 from fun q => k1 ((w_ne (k := 1) (by omega) (by decide)).mp q)), show nI k - 2 = nI (k - 2) from pk_sub (b := 2) (by omega), bi_e (c_pinOf (Q := Qc g m ov c lib th how) hb va g160 vb (show k - 2 < 6 by omega))]
theorem M_instance {g : Gr} {m : Nat} {ov : Nat → Nat} {c : Nat} {lib : Nat → Cel} {th : Nat → Bool} {cv : Option Int32} {T : St} (h : EvM g m ov c lib th T) (hC : CvM g m ov c lib th cv T) (hok : ∀ how, cv = some how → (Qc g m ov c lib th how).ok) (x w : Int32) : f_X9_instance x w T = some (insA g m ov c lib th cv x w, T) := by
  have g160 := h.1
  unfold f_X9_instance j_X9_instance_85 insA
  have e8 : f_X9_in w.toInt64 0 7 T = some (b01 (inR w 8), T) := by
    rw [f_in, i64_of, show (0 : Int64).toInt = 0 from by decide, show (7 : Int64).toInt = 7 from by decide]
    congr 3
    unfold inR
    exact decide_eq_decide.mpr (by omega)
  rw [bi_e e8]
  cases hw : inR w 8 with
  | false => rw [if_pos (show b01 false = 0 from rfl), if_pos rfl]
  | true =>
    obtain ⟨k, hk, rfl⟩ := inR_t hw (by omega)
    rw [if_neg (show ¬ b01 true = 0 from by decide), if_neg (show ¬ true = false from by decide)]
    cases cv with
    | none => rw [if_pos hC.z]
    | some how =>
      obtain ⟨hb, hl, -, -⟩ := hC.2 how rfl
      have ho := hok how rfl
      have hlen : ((Qc g m ov c lib th how).dal g.1).length ≤ 160 := Cq.dal_len ho
      rw [if_neg hC.o, hl.1, bi_e (f_in0 x (show ((Qc g m ov c lib th how).dal g.1).length < 2 ^ 31 by omega) T)]
      simp only
      cases hin : inR x ((Qc g m ov c lib th how).dal g.1).length with
      | false => rw [if_pos (show b01 false = 0 from rfl), if_pos rfl]
      | true =>
        obtain ⟨i, hi, rfl⟩ := inR_t hin (by omega)
        obtain ⟨v, v1, v2, v3⟩ := HS_at hl.2.1 i hi
        obtain ⟨va, vb⟩ := Cq.dal_m ho v1
        have va : v < g.1 := va
        have hr := hb v va
        rw [show 200 * 0 + v = v from by omega] at hr
        obtain ⟨r1, r2, r3, r4, r5⟩ := hr
        have r4 : T 33 0 v = ((Qc g m ov c lib th how).bs g.1 v).1 := r4
        have r5 : ∀ p, p < 6 → T 34 0 (6 * v + p) = (Qc g m ov c lib th how).P v p := r5
        rw [if_neg (show ¬ b01 true = 0 from by decide), if_neg (show ¬ true = false from by decide), gd_t (ix_nI (show i < 200 by omega) (by decide)), lt_, nI_clamp (show i < 2 ^ 31 by omega), v3, v2, nI_clamp (show k < 2 ^ 31 by omega)]
        simp only
        unfold itl
        by_cases k0 : k = 0
        · rw [if_pos k0, if_pos (show nI k = 0 by rw [k0]; rfl), gd_t (ix_nI (show v < 400 by omega) (by decide)), lt_, nI_clamp (show v < 2 ^ 31 by omega), r4]
          rfl
        · rw [if_neg k0, if_neg (show ¬ nI k = 0 from nI_ne0 (by omega) (by omega))]
          by_cases k1 : k = 1
          · rw [if_pos k1, if_pos (show nI k = 1 by rw [k1]; rfl)]
          · rw [if_neg k1, if_neg (show ¬ nI k = 1 from fun q => k1 ((w_ne (k := 1) (by omega) (by decide)).mp q)), show 6 * nI v + nI k - 2 = nI (6 * v + (k - 2)) from by
              rw [show (6 : Int32) = nI 6 from rfl, show (2 : Int32) = nI 2 from rfl, pk_mul, nI_add, pk_sub (by omega)]
              congr 1; omega, gd_t (ix_nI (show 6 * v + (k - 2) < 2400 by omega) (by decide)), lt_, nI_clamp (show 6 * v + (k - 2) < 2 ^ 31 by omega), r5 _ (by omega)]
