/-! The reference's make() -/
theorem mm_l2 {n : Nat} (hn : n ≤ 200) (K : St → Option St) : ∀ (f x : Nat) (T : St), T 0 0 11 = nI n → x ≤ n → n - x < f → ∃ T', l_X9_make_121 K f T (nI x) = K T' ∧ Same [(12, 0), (13, 0), (14, 0)] T T' ∧ ∀ v, (x ≤ v → v < n → T' 12 0 v = 0 ∧ T' 13 0 v = 0 ∧ T' 14 0 v = 0) ∧ (v < x → T' 12 0 v = T 12 0 v ∧ T' 13 0 v = T 13 0 v ∧ T' 14 0 v = T 14 0 v) := by
  intro f
  induction f with
  | zero => intro x T _ _ h; exact absurd h (by omega)
  | succ f ih =>
    intro x T h6 hx hf
    rw [show l_X9_make_121 K (f + 1) = b_X9_make_121 (l_X9_make_121 K f) K from rfl]
    unfold b_X9_make_121
    rw [h6]
    by_cases e : x = n
    · subst e
      rw [if_pos (nI_le (Nat.le_refl _) (by omega))]
      exact ⟨T, rfl, Same.rf, fun v => ⟨fun a b => absurd a (by omega), fun _ => ⟨rfl, rfl, rfl⟩⟩⟩
    · rw [if_neg (nI_ge (show x < n by omega) (by omega))]
      have hix : ix (nI x) 200 = true := ix_nI (by omega) (by decide)
      have hcl : (nI x).toNatClampNeg = x := nI_clamp (by omega)
      simp only [hix, gd, hcl, lt_, nz_0, nI_1]
      have hs : Same [(12, 0), (13, 0), (14, 0)] T (put (put (put T 12 0 x 0) 13 0 x 0) 14 0 x 0) := ((Same.rf.put (by decide)).put (by decide)).put (by decide)
      obtain ⟨T', a1, a2, a3⟩ := ih (x + 1) (put (put (put T 12 0 x 0) 13 0 x 0) 14 0 x 0) (by rw [hs 0 0 (by decide)]; exact h6) (by omega) (by omega)
      refine ⟨T', a1, hs.tr a2, fun v => ⟨fun b c => ?_, fun b => ?_⟩⟩
      · by_cases z : v = x
        · subst z
          obtain ⟨d1, d2, d3⟩ := (a3 v).2 (by omega)
          rw [d1, d2, d3]
          simp [put_at]
        · exact (a3 v).1 (by omega) c
      · obtain ⟨d1, d2, d3⟩ := (a3 v).2 (by omega)
        rw [d1, d2, d3]
        simp [put_at, show v ≠ x by omega]
/-- an output's vertex, as the reference reads it -/
def OVM (m n : Nat) (ov : Nat → Nat) (T : St) : Prop := T 0 0 5 = nI m ∧ m ≤ 8 ∧ n ≤ 160 ∧ ∀ o, o < m → ov o < n ∧ ∃ k, k < 40 ∧ T 5 0 o = nI k ∧ T 11 0 k = nI (ov o)
theorem OVM.same {m n : Nat} {ov : Nat → Nat} {T T' : St} (h : OVM m n ov T) (h2 : T' 0 0 5 = T 0 0 5) (h5 : T' 5 0 = T 5 0) (h11 : T' 11 0 = T 11 0) : OVM m n ov T' := by
  obtain ⟨a, b, c, d⟩ := h
  exact ⟨by rw [h2]; exact a, b, c, by rw [h5, h11]; exact d⟩
theorem mm_l3 {m n : Nat} {ov : Nat → Nat} (K : St → Option St) : ∀ (f o : Nat) (T : St), OVM m n ov T → o ≤ m → m - o < f → (∀ v, v < n → T 12 0 v = nI (cnt ov o v) ∧ T 13 0 v = b01 (!(cnt ov o v == 0)) ∧ T 14 0 v = b01 (!(cnt ov o v == 0))) → ∃ T', l_X9_make_158 K f T (nI o) = K T' ∧ Same [(12, 0), (13, 0), (14, 0)] T T' ∧ ∀ v, v < n → T' 12 0 v = nI (cnt ov m v) ∧ T' 13 0 v = b01 (!(cnt ov m v == 0)) ∧ T' 14 0 v = b01 (!(cnt ov m v == 0)) := by
  intro f
  induction f with
  | zero => intro x T _ _ h; exact absurd h (by omega)
  | succ f ih =>
    intro o T hO ho hf hv
    rw [show l_X9_make_158 K (f + 1) = b_X9_make_158 (l_X9_make_158 K f) K from rfl]
    unfold b_X9_make_158
    have hm := hO.2.1
    rw [hO.1]
    by_cases e : o = m
    · subst e
      rw [if_pos (nI_le (Nat.le_refl _) (by omega))]
      exact ⟨T, rfl, Same.rf, hv⟩
    · rw [if_neg (nI_ge (show o < m by omega) (by omega))]
      obtain ⟨hl, k, hk, e5, e11⟩ := hO.2.2.2 o (by omega)
      have hn := hO.2.2.1
      have hix : ix (nI (ov o)) 200 = true := ix_nI (by omega) (by decide)
      have hcl : (nI (ov o)).toNatClampNeg = ov o := nI_clamp (by omega)
      simp only [ix_nI (show o < 8 by omega) (by decide), nI_clamp (show o < 2 ^ 31 by omega), e5, ix_nI hk (by decide), nI_clamp (show k < 2 ^ 31 by omega), e11, hix, gd, hcl, lt_, nz_1, nI_1, (hv _ hl).1]
      have hs : Same [(12, 0), (13, 0), (14, 0)] T (put (put (put T 12 0 (ov o) (nI (cnt ov o (ov o) + 1))) 13 0 (ov o) 1) 14 0 (ov o) 1) := ((Same.rf.put (by decide)).put (by decide)).put (by decide)
      obtain ⟨T', a1, a2, a3⟩ := ih (o + 1) _ (hO.same (by rw [hs 0 0 (by decide)]) (hs 5 0 (by decide)) (hs 11 0 (by decide))) (by omega) (by omega) (fun v hv2 => by
        rw [put_o rfl, put_o rfl, put_jj, put_o rfl, put_jj, put_o rfl, put_jj, put_o rfl, put_o rfl, cnt]
        by_cases z : v = ov o
        · subst z
          simp [b01]
        · rw [if_neg z, if_neg z, if_neg z, if_neg (fun y => z y.symm), Nat.add_zero]
          exact hv v hv2)
      exact ⟨T', a1, hs.tr a2, a3⟩
theorem us_succ0 {g : Gr} {u0 : Nat → Nat} {d x : Nat} (h : us g u0 d (g.1 - 1 - d) = 0 ∨ (g.2 (g.1 - 1 - d)).1 = 0) : us g u0 (d + 1) x = us g u0 d x := by
  rw [us]
  rcases h with h | h
  · rw [if_pos h]; rfl
  · split
    · rfl
    · unfold inc
      rw [if_neg (fun q => q.1 h), if_neg (fun q => by rw [h] at q; exact absurd q.1 (by decide))]
      rfl
theorem mm_l4 {g : Gr} {m : Nat} {ov : Nat → Nat} (hw : wfG g) (hn : g.1 ≤ 160) (hm : m ≤ 8) (K : St → Option St) : ∀ (f d : Nat) (T : St), d ≤ g.1 → g.1 - d < f → MG g T → (∀ x, x < g.1 → T 12 0 x = nI (us g (cnt ov m) d x) ∧ T 13 0 x = b01 (!(us g (cnt ov m) d x == 0))) → ∃ T', l_X9_make_215 K f T (nI (g.1 - d) - 1) = K T' ∧ Same [(12, 0), (13, 0)] T T' ∧ ∀ x, x < g.1 → T' 12 0 x = nI (UU g m ov x) ∧ T' 13 0 x = b01 (lvs g m ov x) := by
  intro f
  induction f with
  | zero => intro d T _ h; exact absurd h (by omega)
  | succ f ih =>
    intro d T hd hf hc hu
    rw [show l_X9_make_215 K (f + 1) = b_X9_make_215 (l_X9_make_215 K f) K from rfl]
    unfold b_X9_make_215
    by_cases e : d = g.1
    · subst e
      rw [if_pos (by rw [Nat.sub_self]; decide)]
      exact ⟨T, rfl, Same.rf, hu⟩
    · have hlt : d < g.1 := by omega
      have ev : nI (g.1 - d) - 1 = nI (g.1 - 1 - d) := by rw [nI_s1 (by omega), show g.1 - d - 1 = g.1 - 1 - d by omega]
      rw [ev, if_neg (nI_pos (by omega))]
      have hv : g.1 - 1 - d < g.1 := by omega
      have hb := us_le g (cnt_le ov m) d (g.1 - 1 - d)
      have hwv := hw _ hv
      have hix : ix (nI (g.1 - 1 - d)) 200 = true := ix_nI (by omega) (by decide)
      have hcl : (nI (g.1 - 1 - d)).toNatClampNeg = g.1 - 1 - d := nI_clamp (by omega)
      have hneg : nI (g.1 - 1 - d) + (-1) = nI (g.1 - (d + 1)) - 1 := by
        rw [show g.1 - 1 - d = g.1 - (d + 1) by omega]
        exact (Int32.sub_eq_add_neg _ _).symm
      obtain ⟨e8, e9, e10⟩ := hc.2 _ hv
      have on : ∀ T1, Same [(12, 0), (13, 0)] T T1 → (∀ x, x < g.1 → T1 12 0 x = nI (us g (cnt ov m) (d + 1) x) ∧ T1 13 0 x = b01 (!(us g (cnt ov m) (d + 1) x == 0))) → ∃ T', j_X9_make_301 (l_X9_make_215 K f) K T1 (nI (g.1 - 1 - d)) = K T' ∧ Same [(12, 0), (13, 0)] T T' ∧ ∀ x, x < g.1 → T' 12 0 x = nI (UU g m ov x) ∧ T' 13 0 x = b01 (lvs g m ov x) := by
        intro T1 hs h1
        unfold j_X9_make_301
        simp only [lt_, hneg]
        obtain ⟨T', a1, a2, a3⟩ := ih (d + 1) T1 (by omega) (by omega) ⟨by rw [hs 0 0 (by decide)]; exact hc.1, by rw [hs 8 0 (by decide), hs 9 0 (by decide), hs 10 0 (by decide)]; exact hc.2⟩ h1
        exact ⟨T', a1, hs.tr a2, a3⟩
      have h0 : (nI (g.2 (g.1 - 1 - d)).1 = 0) = ((g.2 (g.1 - 1 - d)).1 = 0) := nI_inj (b := 0) (by omega) (by decide)
      have h2 : (nI (g.2 (g.1 - 1 - d)).1 = 2) = ((g.2 (g.1 - 1 - d)).1 = 2) := nI_inj (b := 2) (by omega) (by decide)
      simp only [hix, gd, hcl, lt_, (hu _ hv).2, b01_0, e8, h0]
      by_cases z : us g (cnt ov m) d (g.1 - 1 - d) = 0
      · rw [if_pos (by simp [z])]
        exact on T Same.rf (fun x hx => by rw [us_succ0 (Or.inl z)]; exact hu x hx)
      · rw [if_neg (by simp [z])]
        by_cases q : (g.2 (g.1 - 1 - d)).1 = 0
        · rw [if_pos q]
          exact on T Same.rf (fun x hx => by rw [us_succ0 (Or.inr q)]; exact hu x hx)
        · rw [if_neg q]
          have p := hwv.2.1 q
          have eo : T 9 0 (g.1 - 1 - d) = nI (g.2 (g.1 - 1 - d)).2.1 := by rw [e9]; simp [eO, q]
          have ixa : ix (nI (g.2 (g.1 - 1 - d)).2.1) 200 = true := ix_nI (by omega) (by decide)
          have cla : (nI (g.2 (g.1 - 1 - d)).2.1).toNatClampNeg = (g.2 (g.1 - 1 - d)).2.1 := nI_clamp (by omega)
          have pa : (g.2 (g.1 - 1 - d)).2.1 < g.1 := by omega
          simp only [eo, ixa, gd, cla, (hu _ pa).1, put_o (show ((9 : Nat) == 12 && (0 : Nat) == 0) = false from rfl), put_o (show ((8 : Nat) == 12 && (0 : Nat) == 0) = false from rfl), put_o (show ((8 : Nat) == 13 && (0 : Nat) == 0) = false from rfl), nz_1, nI_1, e8, h2]
          generalize hT1 : put (put T 12 0 (g.2 (g.1 - 1 - d)).2.1 (nI (us g (cnt ov m) d (g.2 (g.1 - 1 - d)).2.1 + 1))) 13 0 (g.2 (g.1 - 1 - d)).2.1 1 = T1
          have s1 : Same [(12, 0), (13, 0)] T T1 := by rw [← hT1]; exact (Same.rf.put (by decide)).put (by decide)
          have u1 : ∀ x, x < g.1 → T1 12 0 x = nI (us g (cnt ov m) d x + (if (g.2 (g.1 - 1 - d)).2.1 = x then 1 else 0)) ∧ T1 13 0 x = b01 (!(us g (cnt ov m) d x + (if (g.2 (g.1 - 1 - d)).2.1 = x then 1 else 0) == 0)) := by
            intro x hx
            rw [← hT1, put_o rfl, put_jj, put_jj, put_o rfl]
            by_cases y : x = (g.2 (g.1 - 1 - d)).2.1
            · rw [if_pos y, if_pos y, if_pos y.symm, y]
              simp [b01]
            · rw [if_neg y, if_neg y, if_neg (fun w => y w.symm), Nat.add_zero]
              exact hu x hx
          by_cases r : (g.2 (g.1 - 1 - d)).1 = 2
          · rw [if_pos r]
            have p2 := hwv.2.2 r
            have pb : (g.2 (g.1 - 1 - d)).2.2 < g.1 := by omega
            have ew : T1 10 0 (g.1 - 1 - d) = nI (g.2 (g.1 - 1 - d)).2.2 := by rw [s1 10 0 (by decide), e10]; simp [eW, r]
            have ixb : ix (nI (g.2 (g.1 - 1 - d)).2.2) 200 = true := ix_nI (by omega) (by decide)
            have clb : (nI (g.2 (g.1 - 1 - d)).2.2).toNatClampNeg = (g.2 (g.1 - 1 - d)).2.2 := nI_clamp (by omega)
            simp only [ew, ixb, gd, clb, (u1 _ pb).1, put_o (show ((10 : Nat) == 12 && (0 : Nat) == 0) = false from rfl), nI_1]
            refine on _ (s1.tr ((Same.rf.put (by decide)).put (by decide))) (fun x hx => ?_)
            have es : us g (cnt ov m) (d + 1) x = us g (cnt ov m) d x + (if (g.2 (g.1 - 1 - d)).2.1 = x then 1 else 0) + (if (g.2 (g.1 - 1 - d)).2.2 = x then 1 else 0) := by
              rw [us, if_neg z, inc]
              simp [r, Nat.add_assoc]
            rw [es, put_o rfl, put_jj, put_jj, put_o rfl]
            by_cases y : x = (g.2 (g.1 - 1 - d)).2.2
            · rw [if_pos y, if_pos y, if_pos y.symm, y]
              simp [b01]
            · rw [if_neg y, if_neg y, if_neg (c := (g.2 (g.1 - 1 - d)).2.2 = x) (fun w => y w.symm), Nat.add_zero]
              exact u1 x hx
          · rw [if_neg r]
            refine on T1 s1 (fun x hx => ?_)
            have es : us g (cnt ov m) (d + 1) x = us g (cnt ov m) d x + (if (g.2 (g.1 - 1 - d)).2.1 = x then 1 else 0) := by
              rw [us, if_neg z, inc]
              simp [r, q]
            rw [es]
            exact u1 x hx
theorem mm_l5 {g : Gr} {m : Nat} {ov : Nat → Nat} (hn : g.1 ≤ 160) (hm : m ≤ 8) (hw : wfG g) : ∀ (f x : Nat) (T : St), x ≤ g.1 → g.1 - x < f → MG g T → (∀ v, v < g.1 → T 12 0 v = nI (UU g m ov v) ∧ T 13 0 v = b01 (lvs g m ov v)) → (∀ v, v < g.1 → T 14 0 v = if v < x then b01 (rts g m ov v) else b01 (!(cnt ov m v == 0))) → ∃ T', l_X9_make_309 f T (nI x) = some T' ∧ Same [(14, 0)] T T' ∧ ∀ v, v < g.1 → T' 14 0 v = b01 (rts g m ov v) := by
  intro f
  induction f with
  | zero => intro x T _ h; exact absurd h (by omega)
  | succ f ih =>
    intro x T hx hf hc hu hr
    rw [show l_X9_make_309 (f + 1) = b_X9_make_309 (l_X9_make_309 f) from rfl]
    unfold b_X9_make_309
    rw [hc.1]
    by_cases e : x = g.1
    · subst e
      rw [if_pos (nI_le (Nat.le_refl _) (by omega))]
      exact ⟨T, rfl, Same.rf, fun v hv => by rw [hr v hv, if_pos hv]⟩
    · have hlt : x < g.1 := by omega
      rw [if_neg (nI_ge hlt (by omega))]
      have hix : ix (nI x) 200 = true := ix_nI (by omega) (by decide)
      have hcl : (nI x).toNatClampNeg = x := nI_clamp (by omega)
      have hwv := hw x hlt
      have hU := UU_le g m ov x
      obtain ⟨e8, e9, e10⟩ := hc.2 x hlt
      have h0 : (nI (g.2 x).1 = 0) = ((g.2 x).1 = 0) := nI_inj (b := 0) (by omega) (by decide)
      have h1 : (nI (UU g m ov x) = 1) = (UU g m ov x = 1) := nI_inj (b := 1) (by omega) (by decide)
      have r14 : T 14 0 x = b01 (!(cnt ov m x == 0)) := by rw [hr x hlt, if_neg (by omega)]
      have fin : ∀ rb : Bool, rts g m ov x = rb → ∃ T', j_X9_make_364 (l_X9_make_309 f) T (nI x) (nI x) (b01 rb) = some T' ∧ Same [(14, 0)] T T' ∧ ∀ v, v < g.1 → T' 14 0 v = b01 (rts g m ov v) := by
        intro rb hrb
        unfold j_X9_make_364
        simp only [hix, gd, hcl, lt_, nz_b01, nI_1]
        have hs : Same [(14, 0)] T (put T 14 0 x (b01 rb)) := Same.rf.put (by decide)
        obtain ⟨T', a1, a2, a3⟩ := ih (x + 1) (put T 14 0 x (b01 rb)) (by omega) (by omega) ⟨by rw [put_o rfl]; exact hc.1, by rw [put_o rfl, put_o rfl, put_o rfl]; exact hc.2⟩ (fun v hv => by rw [put_o rfl, put_o rfl]; exact hu v hv) (fun v hv => by
          rw [put_jj]
          by_cases z : v = x
          · rw [if_pos z, if_pos (by omega), z, hrb]
          · rw [if_neg z, hr v hv]
            by_cases y : v < x
            · rw [if_pos y, if_pos (by omega)]
            · rw [if_neg y, if_neg (by omega)])
        exact ⟨T', a1, hs.tr a2, a3⟩
      unfold j_X9_make_363 j_X9_make_359
      simp only [hix, gd, hcl, lt_, (hu x hlt).1, (hu x hlt).2, r14, b01_0, e8, h0, h1]
      have d1 : lvs g m ov x = !(UU g m ov x == 0) := rfl
      have d2 : rts g m ov x = (!(UU g m ov x == 0) && (!((g.2 x).1 == 0) && (!(cnt ov m x == 0) || !(UU g m ov x == 1)))) := rfl
      rw [d1]
      by_cases z : UU g m ov x = 0
      · rw [if_pos (by simp [z])]
        exact fin false (by rw [d2]; simp [z])
      · rw [if_neg (by simp [z])]
        by_cases q : (g.2 x).1 = 0
        · rw [if_pos q]
          exact fin false (by rw [d2]; simp [q])
        · rw [if_neg q]
          by_cases y : cnt ov m x = 0
          · rw [if_pos (by simp [y])]
            by_cases w : UU g m ov x = 1
            · rw [if_pos w]
              exact fin false (by rw [d2]; simp [y, w])
            · rw [if_neg w]
              exact fin true (by rw [d2]; simp [z, q, w])
          · rw [if_neg (by simp [y])]
            exact fin true (by rw [d2]; simp [z, q, y])
def FrM2 (T T' : St) : Prop := Same [(8, 0), (9, 0), (10, 0), (11, 0), (12, 0), (13, 0), (14, 0), (0, 0)] T T' ∧ ∀ j, j ≠ 11 → T' 0 0 j = T 0 0 j
theorem m_make {N : Nd} {n m : Nat} {ou : Nat → Nat} {T : St} (hn : n ≤ 40) (hN : wfN N n) (hM : NM N n T) (hm : m ≤ 8) (h5 : T 0 0 5 = nI m) (hou : ∀ o, o < m → ou o < n ∧ T 5 0 o = nI (ou o)) : ∃ T', f_X9_make T = some T' ∧ MG (bld N n).1 T' ∧ (∀ j, j < n → T' 11 0 j = nI ((bld N n).2 j)) ∧ EM (bld N n).1 m (fun o => (bld N n).2 (ou o)) T' ∧ FrM2 T T' := by
  obtain ⟨w1, w2, w3⟩ := bld_ok hN (k := n) (Nat.le_refl n)
  unfold f_X9_make
  have f0 : FrM1 T (put T 0 0 11 0) := ⟨Same.rf.put (by decide), fun j hj => by rw [put_j hj]⟩
  obtain ⟨T1, a1, a2, a3, a4⟩ := m_mk1 hn hN (fun S => l_X9_make_121 (fun S => l_X9_make_158 (fun S => lt_ ((S 0 0 11) - 1) (fun v_57 => l_X9_make_215 (fun S => l_X9_make_309 5000 S 0) 5000 S v_57)) 5000 S 0) 5000 S 0) 5000 0 (put T 0 0 11 0) (by omega) (by omega) ⟨by rw [put_self]; rfl, fun v hv => absurd hv (by simp [bld])⟩ (fun j hj => absurd hj (by omega)) (hM.fr f0)
  obtain ⟨T2, b1, b2, b3⟩ := mm_l2 (show (bld N n).1.1 ≤ 200 by omega) (fun S => l_X9_make_158 (fun S => lt_ ((S 0 0 11) - 1) (fun v_57 => l_X9_make_215 (fun S => l_X9_make_309 5000 S 0) 5000 S v_57)) 5000 S 0) 5000 0 T1 a2.1 (by omega) (by omega)
  have hO : OVM m (bld N n).1.1 (fun o => (bld N n).2 (ou o)) T2 := by
    refine ⟨?_, hm, by omega, fun o ho => ?_⟩
    · rw [b2 0 0 (by decide), a4.2 5 (by decide), f0.2 5 (by decide)]; exact h5
    · obtain ⟨q1, q2⟩ := hou o ho
      refine ⟨w3 _ q1, ou o, by omega, ?_, ?_⟩
      · rw [b2 5 0 (by decide), a4.1 5 0 (by decide), f0.1 5 0 (by decide)]; exact q2
      · rw [b2 11 0 (by decide)]; exact a3 _ q1
  obtain ⟨T3, c1, c2, c3⟩ := mm_l3 (fun S => lt_ ((S 0 0 11) - 1) (fun v_57 => l_X9_make_215 (fun S => l_X9_make_309 5000 S 0) 5000 S v_57)) 5000 0 T2 hO (by omega) (by omega) (fun v hv => by
    obtain ⟨d1, d2, d3⟩ := (b3 v).1 (by omega) hv
    rw [d1, d2, d3]
    exact ⟨rfl, rfl, rfl⟩)
  have G3 : MG (bld N n).1 T3 := ⟨by rw [c2 0 0 (by decide), b2 0 0 (by decide)]; exact a2.1, by rw [c2 8 0 (by decide), c2 9 0 (by decide), c2 10 0 (by decide), b2 8 0 (by decide), b2 9 0 (by decide), b2 10 0 (by decide)]; exact a2.2⟩
  obtain ⟨T4, d1, d2, d3⟩ := mm_l4 w1 (by omega) hm (fun S => l_X9_make_309 5000 S 0) 5000 0 T3 (by omega) (by omega) G3 (fun x hx => ⟨(c3 x hx).1, (c3 x hx).2.1⟩)
  have G4 : MG (bld N n).1 T4 := ⟨by rw [d2 0 0 (by decide)]; exact G3.1, by rw [d2 8 0 (by decide), d2 9 0 (by decide), d2 10 0 (by decide)]; exact G3.2⟩
  obtain ⟨T5, e1, e2, e3⟩ := mm_l5 (show (bld N n).1.1 ≤ 160 by omega) hm w1 5000 0 T4 (by omega) (by omega) G4 d3 (fun v hv => by rw [d2 14 0 (by decide), if_neg (by omega)]; exact (c3 v hv).2.2)
  have d1 : l_X9_make_215 (fun S => l_X9_make_309 5000 S 0) 5000 T3 (T3 0 0 11 - 1) = l_X9_make_309 5000 T4 0 := by rw [G3.1]; exact d1
  have s15 : Same [(12, 0), (13, 0), (14, 0)] T1 T5 := ((b2.tr c2).tr (d2.mono (by decide))).tr (e2.mono (by decide))
  refine ⟨T5, a1.trans (b1.trans (c1.trans (d1.trans e1))), ⟨?_, ?_⟩, fun j hj => ?_, fun v hv => ⟨?_, ?_, e3 v hv⟩, ?_, ?_⟩
  · rw [e2 0 0 (by decide)]; exact G4.1
  · rw [e2 8 0 (by decide), e2 9 0 (by decide), e2 10 0 (by decide)]; exact G4.2
  · rw [s15 11 0 (by decide)]; exact a3 j hj
  · rw [e2 12 0 (by decide)]; exact (d3 v hv).1
  · rw [e2 13 0 (by decide)]; exact (d3 v hv).2
  · exact ((f0.1.tr a4.1).mono (by decide)).tr (s15.mono (by decide))
  · intro j hj
    rw [s15 0 0 (by decide), a4.2 j hj, f0.2 j hj]
