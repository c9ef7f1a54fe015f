/-! The class's gates -/
def OkC (S : St) (x : Option (Int32 × St)) (r : Gr × Nat) : Prop := ∃ S', x = some (nI r.2, S') ∧ CG r.1 S' ∧ FrC S S'
theorem c_or {g : Gr} {S : St} (hc : CG g S) (hw : wfG g) (hm : g.1 + 2 < 160) {a b : Nat} (ha : a < g.1) (hb : b < g.1) : OkC S (f_X7_nandOfInverses (nI a) (nI b) S) (gor g a b) := by
  have s1 := giv_stp hw ha
  have m1 := s1.1.2.1
  have s2 := giv_stp s1.2.1 (s1.lt hb)
  have m2 := s2.1.2.1
  obtain ⟨S1, e1, c1, f1⟩ := c_iv hc hw (by omega) ha
  obtain ⟨S2, e2, c2, f2⟩ := c_iv c1 s1.2.1 (by omega) (s1.lt hb)
  obtain ⟨S3, e3, c3, f3⟩ := c_nd c2 s2.2.1 (by omega) (s2.lt s1.2.2) s2.2.2
  refine ⟨S3, ?_, c3, (f1.tr f2).tr f3⟩
  unfold f_X7_nandOfInverses
  rw [bi_e e1, bi_e e2, bi_e e3]
  rfl
theorem c_xo {g : Gr} {S : St} (hc : CG g S) (hw : wfG g) (hm : g.1 + 3 < 160) {a b : Nat} (ha : a < g.1) (hb : b < g.1) : OkC S (f_X7_exclusiveOf (nI a) (nI b) S) (gxo g a b) := by
  have s1 := gnd_stp hw ha hb
  have m1 := s1.1.2.1
  have s2 := gnd_stp s1.2.1 (s1.lt ha) s1.2.2
  have m2 := s2.1.2.1
  have s3 := gnd_stp s2.2.1 (s2.lt (s1.lt hb)) (s2.lt s1.2.2)
  have m3 := s3.1.2.1
  obtain ⟨S1, e1, c1, f1⟩ := c_nd hc hw (by omega) ha hb
  obtain ⟨S2, e2, c2, f2⟩ := c_nd c1 s1.2.1 (by omega) (s1.lt ha) s1.2.2
  obtain ⟨S3, e3, c3, f3⟩ := c_nd c2 s2.2.1 (by omega) (s2.lt (s1.lt hb)) (s2.lt s1.2.2)
  obtain ⟨S4, e4, c4, f4⟩ := c_nd c3 s3.2.1 (by omega) (s3.lt s2.2.2) s3.2.2
  refine ⟨S4, ?_, c4, ((f1.tr f2).tr f3).tr f4⟩
  unfold f_X7_exclusiveOf
  rw [bi_e e1, bi_e e2, bi_e e3, bi_e e4]
  rfl
theorem c_pi {g : Gr} {S : St} (hc : CG g S) (hw : wfG g) (hm : g.1 + 3 < 160) {a b d : Nat} (ha : a < g.1) (hb : b < g.1) (hd : d < g.1) : OkC S (f_X7_pickOf (nI a) (nI b) (nI d) S) (gpi g a b d) := by
  have s1 := gnd_stp hw ha hb
  have m1 := s1.1.2.1
  have s2 := giv_stp s1.2.1 (s1.lt ha)
  have m2 := s2.1.2.1
  have s3 := gnd_stp s2.2.1 s2.2.2 (s2.lt (s1.lt hd))
  have m3 := s3.1.2.1
  obtain ⟨S1, e1, c1, f1⟩ := c_nd hc hw (by omega) ha hb
  obtain ⟨S2, e2, c2, f2⟩ := c_iv c1 s1.2.1 (by omega) (s1.lt ha)
  obtain ⟨S3, e3, c3, f3⟩ := c_nd c2 s2.2.1 (by omega) s2.2.2 (s2.lt (s1.lt hd))
  obtain ⟨S4, e4, c4, f4⟩ := c_nd c3 s3.2.1 (by omega) (s3.lt (s2.lt s1.2.2)) s3.2.2
  refine ⟨S4, ?_, c4, ((f1.tr f2).tr f3).tr f4⟩
  unfold f_X7_pickOf
  rw [bi_e e1, bi_e e2, bi_e e3, bi_e e4]
  rfl
theorem c_gate {g : Gr} {S : St} (hc : CG g S) (hw : wfG g) (hm : g.1 + 3 < 160) {k a b d : Nat} (hk : k ≤ 6) (ha : a < g.1) (hb : b < g.1) (hd : d < g.1) : OkC S (f_X7_addGate (nI k) (nI a) (nI b) (nI d) S) (ggate k g a b d) := by
  have ne : ∀ c : Nat, c < 7 → (nI k = nI c) = (k = c) := fun c hc => nI_inj (by omega) (by omega)
  unfold f_X7_addGate
  have n0 : (nI k = 0) = (k = 0) := ne 0 (by decide)
  have n1 : (nI k = 1) = (k = 1) := ne 1 (by decide)
  have n2 : (nI k = 2) = (k = 2) := ne 2 (by decide)
  have n3 : (nI k = 3) = (k = 3) := ne 3 (by decide)
  have n4 : (nI k = 4) = (k = 4) := ne 4 (by decide)
  have n5 : (nI k = 5) = (k = 5) := ne 5 (by decide)
  simp only [n0, n1, n2, n3, n4, n5]
  match k, hk with
  | 0, _ =>
    obtain ⟨S1, e1, c1, f1⟩ := c_iv hc hw (by omega) ha
    exact ⟨S1, by simp [bi_e e1, ggate], c1, f1⟩
  | 1, _ =>
    have s1 := gnd_stp hw ha hb
    have m1 := s1.1.2.1
    obtain ⟨S1, e1, c1, f1⟩ := c_nd hc hw (by omega) ha hb
    obtain ⟨S2, e2, c2, f2⟩ := c_iv c1 s1.2.1 (by omega) s1.2.2
    exact ⟨S2, by simp [bi_e e1, bi_e e2, ggate], c2, f1.tr f2⟩
  | 2, _ =>
    obtain ⟨S1, e1, c1, f1⟩ := c_or hc hw (by omega) ha hb
    exact ⟨S1, by simp [bi_e e1, ggate], c1, f1⟩
  | 3, _ =>
    obtain ⟨S1, e1, c1, f1⟩ := c_xo hc hw (by omega) ha hb
    exact ⟨S1, by simp [bi_e e1, ggate], c1, f1⟩
  | 4, _ =>
    obtain ⟨S1, e1, c1, f1⟩ := c_nd hc hw (by omega) ha hb
    exact ⟨S1, by simp [bi_e e1, ggate], c1, f1⟩
  | 5, _ =>
    have s1 := gor_stp hw ha hb
    have m1 := s1.1.2.1
    obtain ⟨S1, e1, c1, f1⟩ := c_or hc hw (by omega) ha hb
    obtain ⟨S2, e2, c2, f2⟩ := c_iv c1 s1.2.1 (by omega) s1.2.2
    exact ⟨S2, by simp [bi_e e1, bi_e e2, ggate], c2, f1.tr f2⟩
  | 6, _ =>
    obtain ⟨S1, e1, c1, f1⟩ := c_pi hc hw (by omega) ha hb hd
    exact ⟨S1, by simp [bi_e e1, ggate], c1, f1⟩
