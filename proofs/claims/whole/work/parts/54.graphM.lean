/-! The reference's graph -/
def MG (g : Gr) (T : St) : Prop := T 0 0 11 = nI g.1 ∧ EG g (T 8 0) (T 9 0) (T 10 0)
def FrM (T T' : St) : Prop := Same [(8, 0), (9, 0), (10, 0), (0, 0)] T T' ∧ ∀ j, j ≠ 11 → T' 0 0 j = T 0 0 j
theorem FrM.rf {T : St} : FrM T T := ⟨Same.rf, fun _ _ => rfl⟩
theorem FrM.tr {T T1 T2 : St} (h1 : FrM T T1) (h2 : FrM T1 T2) : FrM T T2 := ⟨h1.1.tr h2.1, fun j hj => (h2.2 j hj).trans (h1.2 j hj)⟩
theorem m_add {g : Gr} {T : St} (hc : MG g T) (hm : g.1 < 200) (t : Nat × Nat × Nat) : ∃ T', j_X9_vertexAt_97 T (nI t.1) (eO t) (eW t) = some (nI g.1, T') ∧ MG (gadd g t) T' ∧ FrM T T' := by
  have hix : ix (nI g.1) 200 = true := ix_nI hm (by decide)
  have hcl : (nI g.1).toNatClampNeg = g.1 := nI_clamp (by omega)
  unfold j_X9_vertexAt_97
  simp only [lt_, hc.1, hix, gd, hcl, put_o (show ((0 : Nat) == 8 && (0 : Nat) == 0) = false from rfl), put_o (show ((0 : Nat) == 9 && (0 : Nat) == 0) = false from rfl), put_o (show ((0 : Nat) == 10 && (0 : Nat) == 0) = false from rfl), put_self, nI_1, nI_pred]
  refine ⟨_, rfl, ⟨?_, ?_⟩, ?_, ?_⟩
  · simp [put_at, gadd]
  · intro v hv
    by_cases e : v = g.1
    · subst e
      simp [put_at, gadd]
    · have hv2 : v < g.1 := by simp [gadd] at hv; omega
      have h := hc.2 v hv2
      simp [put_at, gadd, e, h.1, h.2.1, h.2.2]
  · exact (((Same.rf.put (by decide)).put (by decide)).put (by decide)).put (by decide)
  · intro j hj
    simp [put_at, hj]
theorem nI_s1' (n : Nat) : nI (n + 1) - 1 = nI n := nI_pred n
/-- what the search asks of a vertex -/
def isW (w a b : Nat) (t : Nat × Nat × Nat) : Bool := if w = 2 then isN a b t else isI a t
theorem m_val {g : Gr} {T : St} (hc : MG g T) (hw : wfG g) (hm : g.1 ≤ 200) {w a b : Nat} (h1 : 1 ≤ w) (h2 : w ≤ 2) (ha : a < g.1) (hb : b < g.1) (k : St → Int32 → Int32 → Int32 → Option (Int32 × St)) : ∀ (n u : Nat), u ≤ g.1 → g.1 - u < n → (∀ v, v < u → isW w a b (g.2 v) = false) → l_X9_vertexAt_3 k n T (nI w) (nI a) (if w = 2 then nI b else -4) (nI u) = match gfind (fun v => isW w a b (g.2 v)) g.1 with
    | some v => some (nI v, T)
    | none => k T (nI w) (nI a) (if w = 2 then nI b else -4) := by
  intro n
  induction n with
  | zero => intro u _ h; exact absurd h (by omega)
  | succ n ih =>
    intro u hu hn hf
    rw [show l_X9_vertexAt_3 k (n + 1) = b_X9_vertexAt_3 (l_X9_vertexAt_3 k n) k from rfl]
    unfold b_X9_vertexAt_3
    rw [hc.1]
    by_cases e : u = g.1
    · subst e
      rw [if_pos (nI_le (Nat.le_refl _) (by omega)), gfind_none hf]
    · have hlt : u < g.1 := by omega
      rw [if_neg (nI_ge hlt (by omega)), if_neg (nI_nle (by omega) (by omega))]
      have hix : ix (nI u) 200 = true := ix_nI (by omega) (by decide)
      have hcl : (nI u).toNatClampNeg = u := nI_clamp (by omega)
      obtain ⟨e1, e2, e3⟩ := hc.2 u hlt
      have hwu := hw u hlt
      have next : isW w a b (g.2 u) = false → j_X9_vertexAt_91 (l_X9_vertexAt_3 k n) k T (nI w) (nI a) (if w = 2 then nI b else -4) (nI u) = match gfind (fun v => isW w a b (g.2 v)) g.1 with
          | some v => some (nI v, T)
          | none => k T (nI w) (nI a) (if w = 2 then nI b else -4) := by
        intro hq
        unfold j_X9_vertexAt_91
        simp only [lt_, nI_1]
        exact ih (u + 1) (by omega) (by omega) (fun v hv => by
          by_cases q : v = u
          · subst q; exact hq
          · exact hf v (by omega))
      have hit : isW w a b (g.2 u) = true → some (nI u, T) = match gfind (fun v => isW w a b (g.2 v)) g.1 with
          | some v => some (nI v, T)
          | none => k T (nI w) (nI a) (if w = 2 then nI b else -4) := by
        intro hq
        rw [gfind_at hlt hq hf]
      unfold j_X9_vertexAt_38 j_X9_vertexAt_65 j_X9_vertexAt_69 j_X9_vertexAt_70
      have hw2 : (nI w = 2) = (w = 2) := nI_inj (b := 2) (by omega) (by decide)
      have hww : (nI (g.2 u).1 = nI w) = ((g.2 u).1 = w) := nI_inj (by omega) (by omega)
      simp only [hix, gd, hcl, lt_, e1, e2, e3, hw2, hww]
      generalize hR : (match gfind (fun v => isW w a b (g.2 v)) g.1 with
          | some v => some (nI v, T)
          | none => k T (nI w) (nI a) (if w = 2 then nI b else -4)) = R at next hit ⊢
      generalize hJ : j_X9_vertexAt_91 (l_X9_vertexAt_3 k n) k T (nI w) (nI a) (if w = 2 then nI b else -4) (nI u) = J at next ⊢
      have h10 : (1 : Int32) = 0 ↔ False := by decide
      simp only [h10, if_true, if_false]
      by_cases q : (g.2 u).1 = w
      · have p1 := hwu.2.1 (by omega)
        have eo : eO (g.2 u) = nI (g.2 u).2.1 := by simp [eO, q]; omega
        simp only [if_pos q, eo]
        have i1 : ∀ c : Nat, c < g.1 → (nI (g.2 u).2.1 = nI c) = ((g.2 u).2.1 = c) := fun c hc => nI_inj (by omega) (by omega)
        by_cases w2 : w = 2
        · have p2 := hwu.2.2 (by omega)
          have ew : eW (g.2 u) = nI (g.2 u).2.2 := by simp [eW, q, w2]
          have i2 : ∀ c : Nat, c < g.1 → (nI (g.2 u).2.2 = nI c) = ((g.2 u).2.2 = c) := fun c hc => nI_inj (by omega) (by omega)
          simp only [if_pos w2, ew, i1 a ha, i1 b hb, i2 a ha, i2 b hb]
          have hN : isW w a b (g.2 u) = (((g.2 u).2.1 == a && (g.2 u).2.2 == b) || ((g.2 u).2.1 == b && (g.2 u).2.2 == a)) := by simp [isW, isN, q, w2]
          rw [hN] at next hit
          generalize (g.2 u).2.1 = x at next hit ⊢
          generalize (g.2 u).2.2 = y at next hit ⊢
          by_cases q1 : x = a
          · by_cases q2 : y = b
            · rw [if_pos q1, if_pos q2]; exact hit (by simp [q1, q2])
            · rw [if_pos q1, if_neg q2]
              by_cases q3 : x = b
              · by_cases q4 : y = a
                · rw [if_pos q3, if_pos q4]; exact hit (by simp [q3, q4])
                · rw [if_pos q3, if_neg q4]; exact next (by simp [q2, q4])
              · rw [if_neg q3]; exact next (by simp [q2, q3])
          · rw [if_neg q1]
            by_cases q3 : x = b
            · by_cases q4 : y = a
              · rw [if_pos q3, if_pos q4]; exact hit (by simp [q3, q4])
              · rw [if_pos q3, if_neg q4]; exact next (by simp [q1, q4])
            · rw [if_neg q3]; exact next (by simp [q1, q3])
        · have w1 : w = 1 := by omega
          have ew : eW (g.2 u) = -4 := by simp [eW, q, w2]
          simp only [if_neg w2, ew, i1 a ha]
          by_cases r : (g.2 u).2.1 = a
          · rw [if_pos r, if_pos trivial]
            exact hit (by simp [isW, w2, isI, q, w1, r])
          · rw [if_neg r]
            exact next (by simp [isW, w2, isI, r])
      · have hn : isW w a b (g.2 u) = false := by
          unfold isW
          split
          · simp [isN]; omega
          · simp [isI]; omega
        simp only [if_neg q]
        repeat' split
        all_goals exact next hn
theorem m_nd {g : Gr} {T : St} (hc : MG g T) (hw : wfG g) (hm : g.1 < 200) {a b : Nat} (ha : a < g.1) (hb : b < g.1) : ∃ T', f_X9_nand (nI a) (nI b) T = some (nI (gnd g a b).2, T') ∧ MG (gnd g a b).1 T' ∧ FrM T T' := by
  have h := m_val hc hw (by omega) (w := 2) (by decide) (by decide) ha hb (fun S x1 x2 x3 => j_X9_vertexAt_97 S x1 x2 x3) 5000 0 (by omega) (by omega) (fun v hv => absurd hv (by omega))
  have e : f_X9_vertexAt 2 (nI a) (nI b) T = _ := h
  unfold f_X9_nand
  rw [e]
  simp only [isW, if_true, gnd, gget]
  cases gfind (fun v => isN a b (g.2 v)) g.1 with
  | some v => exact ⟨T, rfl, hc, FrM.rf⟩
  | none =>
    obtain ⟨T', e1, e2, e3⟩ := m_add hc hm (2, a, b)
    have e1 : j_X9_vertexAt_97 T (nI 2) (nI a) (nI b) = some (nI g.1, T') := e1
    refine ⟨T', ?_, e2, e3⟩
    simp only [e1, bi]
theorem m_iv {g : Gr} {T : St} (hc : MG g T) (hw : wfG g) (hm : g.1 < 200) {a : Nat} (ha : a < g.1) : ∃ T', f_X9_inverse (nI a) T = some (nI (giv g a).2, T') ∧ MG (giv g a).1 T' ∧ FrM T T' := by
  have hix : ix (nI a) 200 = true := ix_nI (by omega) (by decide)
  have hcl : (nI a).toNatClampNeg = a := nI_clamp (by omega)
  obtain ⟨e1, e2, e3⟩ := hc.2 a ha
  have hwa := hw a ha
  have h1 : (nI (g.2 a).1 = 1) = ((g.2 a).1 = 1) := nI_inj (b := 1) (by omega) (by decide)
  unfold f_X9_inverse j_X9_inverse_27
  simp only [hix, gd, hcl, lt_, e1, e2, h1]
  by_cases q : (g.2 a).1 = 1
  · refine ⟨T, ?_, ?_, FrM.rf⟩
    · rw [if_pos q]
      simp [giv, q, eO]
    · simp [giv, q]; exact hc
  · rw [if_neg q]
    have h := m_val hc hw (by omega) (w := 1) (by decide) (by decide) ha ha (fun S x1 x2 x3 => j_X9_vertexAt_97 S x1 x2 x3) 5000 0 (by omega) (by omega) (fun v hv => absurd hv (by omega))
    have e : f_X9_vertexAt 1 (nI a) (-4) T = _ := h
    rw [e]
    simp only [isW, show ((1 : Nat) = 2) = False from by simp, if_false, giv, if_neg q, gget]
    cases gfind (fun v => isI a (g.2 v)) g.1 with
    | some v => exact ⟨T, rfl, hc, FrM.rf⟩
    | none =>
      obtain ⟨T', e1, e2, e3⟩ := m_add hc hm (1, a, 0)
      have e1 : j_X9_vertexAt_97 T (nI 1) (nI a) (-4) = some (nI g.1, T') := e1
      refine ⟨T', ?_, e2, e3⟩
      simp only [e1, bi]
theorem m_add0 {g : Gr} {T : St} (hc : MG g T) (hm : g.1 < 200) : ∃ T', f_X9_vertexAt 0 (-4) (-4) T = some (nI g.1, T') ∧ MG (gadd g (0, 0, 0)) T' ∧ FrM T T' := by
  obtain ⟨T', e1, e2, e3⟩ := m_add hc hm (0, 0, 0)
  refine ⟨T', ?_, e2, e3⟩
  unfold f_X9_vertexAt
  rw [show (5000 : Nat) = 4999 + 1 from rfl, show ∀ k, l_X9_vertexAt_3 k (4999 + 1) = b_X9_vertexAt_3 (l_X9_vertexAt_3 k 4999) k from fun _ => rfl]
  unfold b_X9_vertexAt_3
  have e1 : j_X9_vertexAt_97 T 0 (-4) (-4) = some (nI g.1, T') := e1
  by_cases q : T 0 0 11 ≤ 0
  · rw [if_pos q]; exact e1
  · rw [if_neg q, if_pos (by decide)]; exact e1
def OkM (T : St) (x : Option (Int32 × St)) (r : Gr × Nat) : Prop := ∃ T', x = some (nI r.2, T') ∧ MG r.1 T' ∧ FrM T T'
theorem m_gate {g : Gr} {T : St} (hc : MG g T) (hw : wfG g) (hm : g.1 + 3 < 200) {k a b d : Nat} (hk : k ≤ 6) (ha : a < g.1) (hb : k ≠ 0 → b < g.1) (hd : k = 6 → d < g.1) : OkM T (f_X9_gateOf (nI k) (nI a) (nI b) (nI d) T) (ggate k g a b d) := by
  have ne : ∀ c : Nat, c < 7 → (nI k = nI c) = (k = c) := fun c hc => nI_inj (by omega) (by omega)
  unfold f_X9_gateOf j_X9_gateOf_97
  have n0 : (nI k = 0) = (k = 0) := ne 0 (by decide)
  have n1 : (nI k = 1) = (k = 1) := ne 1 (by decide)
  have n2 : (nI k = 2) = (k = 2) := ne 2 (by decide)
  have n3 : (nI k = 3) = (k = 3) := ne 3 (by decide)
  have n4 : (nI k = 4) = (k = 4) := ne 4 (by decide)
  have n5 : (nI k = 5) = (k = 5) := ne 5 (by decide)
  simp only [n0, n1, n2, n3, n4, n5]
  match k, hk with
  | 0, _ =>
    obtain ⟨S1, e1, c1, f1⟩ := m_iv hc hw (by omega) ha
    exact ⟨S1, by simp [bi_e e1, ggate], c1, f1⟩
  | 1, _ =>
    have hb := hb (by decide)
    have s1 := gnd_stp hw ha hb
    have m1 := s1.1.2.1
    obtain ⟨S1, e1, c1, f1⟩ := m_nd hc hw (by omega) ha hb
    obtain ⟨S2, e2, c2, f2⟩ := m_iv c1 s1.2.1 (by omega) s1.2.2
    exact ⟨S2, by simp [bi_e e1, bi_e e2, ggate], c2, f1.tr f2⟩
  | 2, _ =>
    have hb := hb (by decide)
    have s1 := giv_stp hw ha
    have m1 := s1.1.2.1
    have s2 := giv_stp s1.2.1 (s1.lt hb)
    have m2 := s2.1.2.1
    obtain ⟨S1, e1, c1, f1⟩ := m_iv hc hw (by omega) ha
    obtain ⟨S2, e2, c2, f2⟩ := m_iv c1 s1.2.1 (by omega) (s1.lt hb)
    obtain ⟨S3, e3, c3, f3⟩ := m_nd c2 s2.2.1 (by omega) (s2.lt s1.2.2) s2.2.2
    exact ⟨S3, by simp [bi_e e1, bi_e e2, bi_e e3, ggate, gor], c3, (f1.tr f2).tr f3⟩
  | 3, _ =>
    have hb := hb (by decide)
    have s1 := gnd_stp hw ha hb
    have m1 := s1.1.2.1
    have s2 := gnd_stp s1.2.1 (s1.lt ha) s1.2.2
    have m2 := s2.1.2.1
    have s3 := gnd_stp s2.2.1 (s2.lt (s1.lt hb)) (s2.lt s1.2.2)
    have m3 := s3.1.2.1
    obtain ⟨S1, e1, c1, f1⟩ := m_nd hc hw (by omega) ha hb
    obtain ⟨S2, e2, c2, f2⟩ := m_nd c1 s1.2.1 (by omega) (s1.lt ha) s1.2.2
    obtain ⟨S3, e3, c3, f3⟩ := m_nd c2 s2.2.1 (by omega) (s2.lt (s1.lt hb)) (s2.lt s1.2.2)
    obtain ⟨S4, e4, c4, f4⟩ := m_nd c3 s3.2.1 (by omega) (s3.lt s2.2.2) s3.2.2
    exact ⟨S4, by simp [bi_e e1, bi_e e2, bi_e e3, bi_e e4, ggate, gxo], c4, ((f1.tr f2).tr f3).tr f4⟩
  | 4, _ =>
    have hb := hb (by decide)
    obtain ⟨S1, e1, c1, f1⟩ := m_nd hc hw (by omega) ha hb
    exact ⟨S1, by simp [bi_e e1, ggate], c1, f1⟩
  | 5, _ =>
    have hb := hb (by decide)
    have s1 := giv_stp hw ha
    have m1 := s1.1.2.1
    have s2 := giv_stp s1.2.1 (s1.lt hb)
    have m2 := s2.1.2.1
    have s3 := gnd_stp s2.2.1 (s2.lt s1.2.2) s2.2.2
    have m3 := s3.1.2.1
    obtain ⟨S1, e1, c1, f1⟩ := m_iv hc hw (by omega) ha
    obtain ⟨S2, e2, c2, f2⟩ := m_iv c1 s1.2.1 (by omega) (s1.lt hb)
    obtain ⟨S3, e3, c3, f3⟩ := m_nd c2 s2.2.1 (by omega) (s2.lt s1.2.2) s2.2.2
    obtain ⟨S4, e4, c4, f4⟩ := m_iv c3 s3.2.1 (by omega) s3.2.2
    exact ⟨S4, by simp [bi_e e1, bi_e e2, bi_e e3, bi_e e4, ggate, gor], c4, ((f1.tr f2).tr f3).tr f4⟩
  | 6, _ =>
    have hb := hb (by decide)
    have hd := hd rfl
    have s1 := gnd_stp hw ha hb
    have m1 := s1.1.2.1
    have s2 := giv_stp s1.2.1 (s1.lt ha)
    have m2 := s2.1.2.1
    have s3 := gnd_stp s2.2.1 s2.2.2 (s2.lt (s1.lt hd))
    have m3 := s3.1.2.1
    obtain ⟨S1, e1, c1, f1⟩ := m_nd hc hw (by omega) ha hb
    obtain ⟨S2, e2, c2, f2⟩ := m_iv c1 s1.2.1 (by omega) (s1.lt ha)
    obtain ⟨S3, e3, c3, f3⟩ := m_nd c2 s2.2.1 (by omega) s2.2.2 (s2.lt (s1.lt hd))
    obtain ⟨S4, e4, c4, f4⟩ := m_nd c3 s3.2.1 (by omega) (s3.lt (s2.lt s1.2.2)) s3.2.2
    exact ⟨S4, by simp [bi_e e1, bi_e e2, bi_e e3, bi_e e4, ggate, gpi], c4, ((f1.tr f2).tr f3).tr f4⟩
