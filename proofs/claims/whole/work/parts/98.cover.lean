/-! cover, worth, best, area, arrival of both sides -/
def Qc (g : Gr) (m : Nat) (ov : Nat → Nat) (c : Nat) (lib : Nat → Cel) (th : Nat → Bool) (how : Int32) : Cq := mkQ g m ov c lib th how (-4)
def CvC (g : Gr) (m : Nat) (ov : Nat → Nat) (c : Nat) (lib : Nat → Cel) (th : Nat → Bool) (cv : Option Int32) (S : St) : Prop := S 0 0 8 = b01 cv.isSome ∧ ∀ how, cv = some how → (Qc g m ov c lib th how).ok ∧ (Qc g m ov c lib th how).bC 0 S ∧ (Qc g m ov c lib th how).lsC 0 ((Qc g m ov c lib th how).dal g.1) S ∧ S 6 0 13 = how
def CvM (g : Gr) (m : Nat) (ov : Nat → Nat) (c : Nat) (lib : Nat → Cel) (th : Nat → Bool) (cv : Option Int32) (T : St) : Prop := T 0 0 10 = b01 cv.isSome ∧ ∀ how, cv = some how → (Qc g m ov c lib th how).bM 0 T ∧ (Qc g m ov c lib th how).lsM ((Qc g m ov c lib th how).dal g.1) T ∧ T 0 0 40 = how ∧ T 0 0 50 = (Qc g m ov c lib th how).asm ((Qc g m ov c lib th how).dal g.1)
theorem Cq.ok_of {Q : Cq} {S : St} (h : Q.eC S) (hb : gfind Q.isBad Q.g.1 = none) : Q.ok := ⟨h.2.1, h.1, h.2.2.2.2.1, hb⟩
/-- the rows of one cover -/
def exV (t : Nat) : List (Nat × Nat) := [(6, t), (27, t), (28, t), (29, t), (30, t), (31, t), (32, t), (33, t), (34, t), (5, 0), (25, 0), (26, 0)]
theorem exC_V (t : Nat) : ∀ q ∈ (6, t) :: exC t, q ∈ exV t := by simp [exC, exV]
theorem exI_V (t : Nat) : ∀ q ∈ exI t, q ∈ exV t := by simp [exI, exV]
theorem exV_E (t : Nat) : ∀ q ∈ exV t, q.1 ∉ ksE := by simp [exV, ksE]
/-- make() as a whole -/
theorem c_makeA {Q : Cq} {t : Nat} {S : St} (hE : Q.eC S) : (∀ w, gfind Q.isBad Q.g.1 = some w → ∃ S', f_X1_make t Q.how Q.wo S = some (nI w, S') ∧ Same (exV t) S S') ∧ (gfind Q.isBad Q.g.1 = none → ∃ S', f_X1_make t Q.how Q.wo S = some (-4, S') ∧ Same (exV t) S S' ∧ Q.bC t S' ∧ Q.lsC t (Q.dal Q.g.1) S' ∧ S' 6 t 13 = Q.how) := by
  rcases c_make (Q := Q) (t := t) hE with ⟨w, S', a1, a2, a3⟩ | ⟨S', a1, a2, a3, a4, a5⟩
  · refine ⟨fun w' hw => ?_, fun hn => ?_⟩
    · rw [a3] at hw
      cases hw
      exact ⟨S', a1, a2.mono (exC_V t)⟩
    · rw [hn] at a3; cases a3
  · refine ⟨fun w' hw => ?_, fun _ => ?_⟩
    · rw [hw] at a4; cases a4
    · have s1 := a2.mono (exC_V t)
      have hE1 := hE.same s1 (exV_E t)
      obtain ⟨S2, b1, b2, b3, b4⟩ := c_listI (Q.ok_of hE a4) (t := t) hE1 a5
      rw [a1, bv_e b1]
      exact ⟨S2, rfl, s1.tr (b3.mono (exI_V t)), Cq.bC.same a5 b3, b2, by rw [b4]; exact a3⟩
def isHow (x : Int32) : Bool := x == 0 || x == 1
theorem X_cover {g : Gr} {m : Nat} {ov : Nat → Nat} {c : Nat} {lib : Nat → Cel} {th : Nat → Bool} {S : St} (h : EvC g m ov c lib th S) (x : Int32) : (isHow x = false → f_X8_cover x S = some (-1, S)) ∧ (isHow x = true → (∀ w, gfind (Qc g m ov c lib th x).isBad g.1 = some w → ∃ S', f_X8_cover x S = some (-100 - nI w, S') ∧ Same ((0, 0) :: exV 0) S S' ∧ CvC g m ov c lib th none S') ∧ (gfind (Qc g m ov c lib th x).isBad g.1 = none → ∃ S', f_X8_cover x S = some (0, S') ∧ Same ((0, 0) :: exV 0) S S' ∧ CvC g m ov c lib th (some x) S')) := by
  have e11 : isHow x = true → f_X8_cover x S = j_X8_cover_11 S x := fun hx => by
    unfold f_X8_cover
    by_cases h0 : x = 0
    · rw [if_pos h0]
    · rw [if_neg h0]
      by_cases h1 : x = 1
      · rw [if_pos h1]
      · unfold isHow at hx; simp [h0, h1] at hx
  obtain ⟨m1, m2⟩ := c_makeA (Q := Qc g m ov c lib th x) (t := 0) (S := S) h
  refine ⟨fun hx => ?_, fun hx => ⟨fun w hw => ?_, fun hn => ?_⟩⟩
  · unfold isHow at hx
    unfold f_X8_cover
    have hx := Bool.or_eq_false_iff.mp hx
    rw [if_neg (by simpa using hx.1), if_neg (by simpa using hx.2)]
  · obtain ⟨S1, a1, a2⟩ := m1 w hw
    have a1 : f_X1_make 0 x (-4) S = _ := a1
    have hwl := (gfind_spec hw).1
    have g160 := h.1
    rw [e11 hx]
    unfold j_X8_cover_11 j_X8_cover_34 j_X8_cover_52
    rw [bi_e a1, if_neg (nI_m4 (by omega)), gd_t (show bz 0 = true from by decide), lt_, put_self, if_pos rfl]
    exact ⟨_, rfl, (a2.mono (fun q hq => List.mem_cons_of_mem _ hq)).put (by simp), put_self _ _ _ _ _, fun how hh => by cases hh⟩
  · obtain ⟨S1, a1, a2, a3, a4, a5⟩ := m2 hn
    have a1 : f_X1_make 0 x (-4) S = _ := a1
    rw [e11 hx]
    unfold j_X8_cover_11 j_X8_cover_34 j_X8_cover_52
    rw [bi_e a1, if_pos rfl, gd_t (show bz 1 = true from by decide), lt_, put_self, if_neg (by decide)]
    refine ⟨_, rfl, (a2.mono (fun q hq => List.mem_cons_of_mem _ hq)).put (by simp), put_self _ _ _ _ _, fun how hh => ?_⟩
    cases hh
    have sp : Same [(0, 0)] S1 (put S1 0 0 8 1) := Same.rf.put (by simp)
    refine ⟨Cq.ok_of h hn, fun u hu => (a3 u hu).eB (eB.of (fun k hk => sp k 0 (by rcases hk with rfl | rfl | rfl | rfl <;> decide))), ?_, ?_⟩
    · obtain ⟨l1, l2, l3, l4⟩ := a4
      exact ⟨by rw [sp 6 0 (by decide)]; exact l1, by rw [sp 31 0 (by decide)]; exact l2, by rw [sp 32 0 (by decide)]; exact l3, by rw [sp 6 0 (by decide)]; exact l4⟩
    · rw [sp 6 0 (by decide)]; exact a5
def exW : List (Nat × Nat) := [(0, 0), (28, 0), (29, 0), (30, 0), (31, 0), (32, 0), (33, 0), (34, 0), (35, 0), (36, 0), (37, 0), (38, 0), (39, 0)]
/-- what a call over covers may change of the reference -/
def FrW (T T' : St) : Prop := Same exW T T' ∧ ∀ j, j ≠ 10 → j ≠ 40 → j ≠ 46 → j ≠ 50 → T' 0 0 j = T 0 0 j
theorem FrW.rf {T : St} : FrW T T := ⟨Same.rf, fun _ _ _ _ _ => rfl⟩
theorem FrW.tr {T T1 T2 : St} (h : FrW T T1) (h2 : FrW T1 T2) : FrW T T2 := ⟨h.1.tr h2.1, fun j a b c d => (h2.2 j a b c d).trans (h.2 j a b c d)⟩
theorem FrW.q {T T' : St} (s : Same exQ T T') : FrW T T' := ⟨s.mono (by decide), fun j _ _ _ _ => by rw [s 0 0 (by decide)]⟩
theorem FrW.j {T T' : St} (f : FrJ T T') : FrW T T' := ⟨f.1.mono (by decide), fun j _ _ h _ => f.2 j h⟩
theorem EvM.frW {g : Gr} {m : Nat} {ov : Nat → Nat} {c : Nat} {lib : Nat → Cel} {th : Nat → Bool} {T T' : St} (h : EvM g m ov c lib th T) (f : FrW T T') : EvM g m ov c lib th T' := EvM.keep h (fun k hk h0 => f.1 k 0 (fun hm => by
    have : ∀ q ∈ exW, q.1 = 0 ∨ q.1 ∉ ksM := by decide
    rcases this _ hm with q | q
    · exact h0 q
    · exact q hk)) (f.2 11 (by decide) (by decide) (by decide) (by decide)) (f.2 22 (by decide) (by decide) (by decide) (by decide))
theorem f_in01 (x : Int32) (T : St) : f_X9_in x.toInt64 0 1 T = some (b01 (isHow x), T) := by
  rw [f_in, i64_of, show (0 : Int64).toInt = 0 from by decide, show (1 : Int64).toInt = 1 from by decide]
  congr 3
  unfold isHow
  have e0 : (x == 0) = decide (x.toInt = 0) := by
    by_cases h : x = 0
    · subst h; rfl
    · rw [beq_eq_false_iff_ne.mpr h]
      exact (decide_eq_false (fun q : x.toInt = 0 => h (i32_eq (q.trans (by decide))))).symm
  have e1 : (x == 1) = decide (x.toInt = 1) := by
    by_cases h : x = 1
    · subst h; rfl
    · rw [beq_eq_false_iff_ne.mpr h]
      exact (decide_eq_false (fun q : x.toInt = 1 => h (i32_eq (q.trans (by decide))))).symm
  rw [e0, e1, ← Bool.decide_or]
  exact decide_eq_decide.mpr (by omega)
theorem M_cover {g : Gr} {m : Nat} {ov : Nat → Nat} {c : Nat} {lib : Nat → Cel} {th : Nat → Bool} {cv : Option Int32} {T : St} (h : EvM g m ov c lib th T) (hC : CvM g m ov c lib th cv T) (hok : ∀ how, cv = some how → (Qc g m ov c lib th how).ok) (x : Int32) : (isHow x = false → f_X9_cover x T = some (-1, T)) ∧ (isHow x = true → (∀ w, gfind (Qc g m ov c lib th x).isBad g.1 = some w → ∃ T', f_X9_cover x T = some (-100 - nI w, T') ∧ FrW T T' ∧ CvM g m ov c lib th none T') ∧ (gfind (Qc g m ov c lib th x).isBad g.1 = none → ∃ T', f_X9_cover x T = some (0, T') ∧ FrW T T' ∧ CvM g m ov c lib th (some x) T')) := by
  have hQ : (Qc g m ov c lib th x).eM T := h
  have g160 := h.1
  have c20 := h.2.2.2.2.1.1
  obtain ⟨T1, a1, a2, a3, a4⟩ := m_best (Q := Qc g m ov c lib th x) (w := 0) (by omega) hQ
  have a1 : f_X9_best 0 x (-4) T = _ := a1
  unfold f_X9_cover
  rw [bi_e (f_in01 x T)]
  refine ⟨fun hx => ?_, fun hx => ⟨fun w hw => ?_, fun hn => ?_⟩⟩
  · rw [hx, if_pos (show b01 false = 0 from rfl)]
  · have hwl := (gfind_spec hw).1
    have hw' : gfind (Qc g m ov c lib th x).isBad (Qc g m ov c lib th x).g.1 = some w := hw
    rw [hw'] at a1
    simp only at a1
    rw [hx, if_neg (show ¬ b01 true = 0 from by decide), bi_e a1, if_neg (nI_m4 (by omega))]
    refine ⟨T1, rfl, FrW.q a2, ?_, fun how hh => by cases hh⟩
    rw [a2 0 0 (by decide), hC.1]
    cases cv with
    | none => rfl
    | some h0 =>
      have o := (hok h0 rfl).2.2.2
      have e := gfind_cg (fun v => Cq.bad_wh (Q := Qc g m ov c lib th h0) x (show c < 2 ^ 31 by omega) v) g.1
      have o : gfind (Qc g m ov c lib th h0).isBad g.1 = none := o
      have hw2 : gfind ((Qc g m ov c lib th h0).wh x).isBad g.1 = some w := hw
      rw [o, hw2] at e
      cases e
  · have hn' : gfind (Qc g m ov c lib th x).isBad (Qc g m ov c lib th x).g.1 = none := hn
    rw [hn'] at a1
    simp only at a1
    rw [hx, if_neg (show ¬ b01 true = 0 from by decide), bi_e a1, if_pos rfl, lt_, lt_]
    generalize hT2 : put (put T1 0 0 40 x) 0 0 10 1 = T2
    have f2 : FrW T1 T2 := ⟨by rw [← hT2]; exact (Same.rf.put (by decide)).put (by decide), fun j j1 j2 _ _ => by rw [← hT2, put_j j1, put_j j2]⟩
    have s2 : Same [(0, 0)] T1 T2 := by rw [← hT2]; exact (Same.rf.put (by decide)).put (by decide)
    have hok2 : (Qc g m ov c lib th x).ok := ⟨h.2.1, h.1, h.2.2.2.2.1, hn⟩
    have hE2 : (Qc g m ov c lib th x).eM T2 := EvM.frW h ((FrW.q a2).tr f2)
    have hb2 : (Qc g m ov c lib th x).bM 0 T2 := fun u hu => (a3 u hu).eM (eM.of (fun k hk => s2 k 0 (by rcases hk with rfl | rfl | rfl | rfl | rfl <;> decide)))
    obtain ⟨T3, b1, b2, b3⟩ := m_insts hok2 (w := 0) (by omega) hE2 hb2
    have b1 : f_X9_instances 0 T2 = _ := b1
    rw [bi_e b1, lt_]
    have f3 : FrW T3 (put T3 0 0 50 ((Qc g m ov c lib th x).asm ((Qc g m ov c lib th x).dal g.1))) := ⟨Same.rf.put (by decide), fun j _ _ _ j4 => put_j j4⟩
    have s3 : Same [(0, 0)] T3 (put T3 0 0 50 ((Qc g m ov c lib th x).asm ((Qc g m ov c lib th x).dal g.1))) := Same.rf.put (by decide)
    refine ⟨_, rfl, (((FrW.q a2).tr f2).tr (FrW.j b3)).tr f3, ?_, fun how hh => ?_⟩
    · show put T3 0 0 50 ((Qc g m ov c lib th x).asm ((Qc g m ov c lib th x).dal g.1)) 0 0 10 = b01 true
      rw [put_j (by decide), b3.2 10 (by decide), ← hT2, put_self]; rfl
    · cases hh
      refine ⟨fun u hu => ((Cq.bM.same hb2 b3.1) u hu).eM (eM.of (fun k hk => s3 k 0 (by rcases hk with rfl | rfl | rfl | rfl | rfl <;> decide))), ⟨?_, ?_, ?_⟩, ?_, put_self _ _ _ _ _⟩
      · rw [put_j (by decide)]; exact b2.1
      · rw [put_o rfl]; exact b2.2.1
      · rw [put_o rfl]; exact b2.2.2
      · rw [put_j (by decide), b3.2 40 (by decide), ← hT2, put_j (by decide), put_self]
/-- what worth() answers -/
def wrt (g : Gr) (m : Nat) (ov : Nat → Nat) (c : Nat) (lib : Nat → Cel) (th : Nat → Bool) (cv : Option Int32) (x : Int32) : Int32 := if (inR x c && th x.toNatClampNeg) = false then -1 else match cv with
  | none => -2
  | some how => match gfind (mkQ g m ov c lib th how x).isBad g.1 with
    | some _ => -4
    | none => (mkQ g m ov c lib th how x).asm ((mkQ g m ov c lib th how x).dal g.1) - (Qc g m ov c lib th how).asm ((Qc g m ov c lib th how).dal g.1)
theorem CvC.same {g : Gr} {m : Nat} {ov : Nat → Nat} {c : Nat} {lib : Nat → Cel} {th : Nat → Bool} {cv : Option Int32} {S S' : St} (h : CvC g m ov c lib th cv S) (s : Keep [(0, 0), (6, 0), (27, 0), (28, 0), (29, 0), (30, 0), (31, 0), (32, 0)] S S') : CvC g m ov c lib th cv S' := by
  refine ⟨by rw [s.at 0 0 (by decide)]; exact h.1, fun how hh => ?_⟩
  obtain ⟨a1, a2, a3, a4⟩ := h.2 how hh
  obtain ⟨l1, l2, l3, l4⟩ := a3
  refine ⟨a1, fun u hu => (a2 u hu).eB (eB.of (fun k hk => s.at k 0 (by rcases hk with rfl | rfl | rfl | rfl <;> decide))), ⟨?_, ?_, ?_, ?_⟩, ?_⟩
  · rw [s.at 6 0 (by decide)]; exact l1
  · rw [s.at 31 0 (by decide)]; exact l2
  · rw [s.at 32 0 (by decide)]; exact l3
  · rw [s.at 6 0 (by decide)]; exact l4
  · rw [s.at 6 0 (by decide)]; exact a4
theorem X_worth {g : Gr} {m : Nat} {ov : Nat → Nat} {c : Nat} {lib : Nat → Cel} {th : Nat → Bool} {cv : Option Int32} {S : St} (h : EvC g m ov c lib th S) (hC : CvC g m ov c lib th cv S) (x : Int32) : ∃ S', f_X8_worth x S = some (wrt g m ov c lib th cv x, S') ∧ Same (exV 1) S S' ∧ CvC g m ov c lib th cv S' := by
  unfold f_X8_worth wrt
  rw [bi_e (c_has h.2.2.2.2.1.1 h.2.2.2.2.2 x)]
  cases hq : (inR x c && th x.toNatClampNeg) with
  | false => rw [if_pos (show b01 false = 0 from rfl), if_pos rfl]; exact ⟨S, rfl, Same.rf, hC⟩
  | true =>
    rw [if_neg (show ¬ b01 true = 0 from by decide), if_neg (show ¬ true = false from by decide), hC.1]
    cases cv with
    | none => rw [if_pos (show b01 (none : Option Int32).isSome = 0 from rfl)]; exact ⟨S, rfl, Same.rf, hC⟩
    | some how =>
      obtain ⟨b1, b2, b3, b4⟩ := hC.2 how rfl
      rw [if_neg (show ¬ b01 (some how).isSome = 0 from (show ¬ b01 true = 0 from by decide)), b4]
      obtain ⟨m1, m2⟩ := c_makeA (Q := mkQ g m ov c lib th how x) (t := 1) (S := S) h
      have kp : ∀ S', Same (exV 1) S S' → Keep [(0, 0), (6, 0), (27, 0), (28, 0), (29, 0), (30, 0), (31, 0), (32, 0)] S S' := fun S' s => s.keep (by decide)
      simp only
      cases hb : gfind (mkQ g m ov c lib th how x).isBad g.1 with
      | some w =>
        obtain ⟨S1, a1, a2⟩ := m1 w hb
        have a1 : f_X1_make 1 how x S = _ := a1
        have hwl := (gfind_spec hb).1
        have g160 := h.1
        rw [bi_e a1, if_neg (nI_m4 (by omega))]
        exact ⟨S1, rfl, a2, hC.same (kp S1 a2)⟩
      | none =>
        obtain ⟨S1, a1, a2, a3, a4, a5⟩ := m2 hb
        have a1 : f_X1_make 1 how x S = _ := a1
        rw [bi_e a1, if_pos rfl]
        refine ⟨S1, ?_, a2, hC.same (kp S1 a2)⟩
        have e1 : S1 6 1 12 = (mkQ g m ov c lib th how x).asm ((mkQ g m ov c lib th how x).dal g.1) := a4.2.2.2
        have e2 : S1 6 0 12 = (Qc g m ov c lib th how).asm ((Qc g m ov c lib th how).dal g.1) := by rw [a2 6 0 (by decide)]; exact b3.2.2.2
        rw [e1, e2]
theorem CvM.fr {g : Gr} {m : Nat} {ov : Nat → Nat} {c : Nat} {lib : Nat → Cel} {th : Nat → Bool} {cv : Option Int32} {T T' : St} (h : CvM g m ov c lib th cv T) (s : Keep [(30, 0), (31, 0), (32, 0), (33, 0), (34, 0), (35, 0), (36, 0)] T T') (hz : KeepZ [10, 40, 46, 50] T T') : CvM g m ov c lib th cv T' := by
  refine ⟨by rw [hz 10 (by decide)]; exact h.1, fun how hh => ?_⟩
  obtain ⟨a1, a2, a3, a4⟩ := h.2 how hh
  refine ⟨fun u hu => (a1 u hu).eM (eM.of (fun k hk => s.at k 0 (by rcases hk with rfl | rfl | rfl | rfl | rfl <;> decide))), ⟨?_, ?_, ?_⟩, ?_, ?_⟩
  · rw [hz 46 (by decide)]; exact a2.1
  · rw [s.at 35 0 (by decide)]; exact a2.2.1
  · rw [s.at 36 0 (by decide)]; exact a2.2.2
  · rw [hz 40 (by decide)]; exact a3
  · rw [hz 50 (by decide)]; exact a4
theorem M_worth {g : Gr} {m : Nat} {ov : Nat → Nat} {c : Nat} {lib : Nat → Cel} {th : Nat → Bool} {cv : Option Int32} {T : St} (h : EvM g m ov c lib th T) (hC : CvM g m ov c lib th cv T) (hok : ∀ how, cv = some how → (Qc g m ov c lib th how).ok) (x : Int32) : ∃ T', f_X9_worth x T = some (wrt g m ov c lib th cv x, T') ∧ FrW T T' ∧ CvM g m ov c lib th cv T' := by
  unfold f_X9_worth wrt
  rw [bi_e (m_isCell h.2.2.2.2.1.1 h.2.2.2.2.2 x)]
  cases hq : (inR x c && th x.toNatClampNeg) with
  | false => rw [if_pos (show b01 false = 0 from rfl), if_pos rfl]; exact ⟨T, rfl, FrW.rf, hC⟩
  | true =>
    rw [if_neg (show ¬ b01 true = 0 from by decide), if_neg (show ¬ true = false from by decide), hC.1]
    cases cv with
    | none => rw [if_pos (show b01 (none : Option Int32).isSome = 0 from rfl)]; exact ⟨T, rfl, FrW.rf, hC⟩
    | some how =>
      obtain ⟨b1, b2, b3, b4⟩ := hC.2 how rfl
      have ho := hok how rfl
      rw [if_neg (show ¬ b01 (some how).isSome = 0 from (show ¬ b01 true = 0 from by decide)), b3]
      have hQ : (mkQ g m ov c lib th how x).eM T := h
      have g160 := h.1
      obtain ⟨T1, a1, a2, a3, a4⟩ := m_best (Q := mkQ g m ov c lib th how x) (w := 1) (by omega) hQ
      have a1 : f_X9_best 1 how x T = some (match gfind (mkQ g m ov c lib th how x).isBad g.1 with | some w => nI w | none => -4, T1) := a1
      have hb1 : (Qc g m ov c lib th how).bM 0 T1 := fun u hu => (b1 u hu).eM (a4 _ (Or.inl (by
        have hu : u < g.1 := hu
        omega)))
      simp only
      cases hb : gfind (mkQ g m ov c lib th how x).isBad g.1 with
      | some w =>
        rw [hb] at a1
        simp only at a1
        have hwl := (gfind_spec hb).1
        rw [bi_e a1, if_neg (nI_m4 (by omega))]
        refine ⟨T1, rfl, FrW.q a2, by rw [a2 0 0 (by decide)]; exact hC.1, fun how' hh => ?_⟩
        cases hh
        exact ⟨hb1, ⟨by rw [a2 0 0 (by decide)]; exact b2.1, by rw [a2 35 0 (by decide)]; exact b2.2.1, by rw [a2 36 0 (by decide)]; exact b2.2.2⟩, by rw [a2 0 0 (by decide)]; exact b3, by rw [a2 0 0 (by decide)]; exact b4⟩
      | none =>
        rw [hb] at a1
        simp only at a1
        rw [bi_e a1, if_pos rfl]
        have ok1 : (mkQ g m ov c lib th how x).ok := ⟨h.2.1, h.1, h.2.2.2.2.1, hb⟩
        obtain ⟨T2, c1, c2, c3⟩ := m_insts ok1 (w := 1) (by omega) (Cq.eM.same hQ a2) a3
        have c1 : f_X9_instances 1 T1 = _ := c1
        have e2 : EvM g m ov c lib th T2 := EvM.frW h ((FrW.q a2).tr (FrW.j c3))
        obtain ⟨T3, d1, d2, d3⟩ := m_insts ho (w := 0) (by omega) (T := T2) e2 (Cq.bM.same hb1 c3.1)
        have d1 : f_X9_instances 0 T2 = _ := d1
        rw [bi_e c1, bi_e d1]
        refine ⟨T3, rfl, ((FrW.q a2).tr (FrW.j c3)).tr (FrW.j d3), ?_, fun how' hh => ?_⟩
        · rw [d3.2 10 (by decide), c3.2 10 (by decide), a2 0 0 (by decide)]; exact hC.1
        · cases hh
          refine ⟨Cq.bM.same (Cq.bM.same hb1 c3.1) d3.1, d2, ?_, ?_⟩
          · rw [d3.2 40 (by decide), c3.2 40 (by decide), a2 0 0 (by decide)]; exact b3
          · rw [d3.2 50 (by decide), c3.2 50 (by decide), a2 0 0 (by decide)]; exact b4
